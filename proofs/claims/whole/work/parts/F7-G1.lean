section
/-! Names of a function read. -/
def rqP (b : Bool) (t : TKQ) : Nat := if b = true then t.2.1 else t.2.2.1
theorem rqP_t (t : TKQ) : rqP true t = t.2.1 := rfl
theorem rqP_f (t : TKQ) : rqP false t = t.2.2.1 := rfl
abbrev RN : Type := Bool × TKQ × Nat × (Nat → List Int32)
def tkw (f : Nat → Int32) (t : TKQ) : List Int32 := seg f t.2.1 t.2.2.1
def rnG (f : Nat → Int32) (n : Nat) : Nat → TKQ → Nat → (Nat → List Int32) → RN
  | 0, t, k, NL => (false, t, k, NL)
  | w + 1, t, k, NL =>
    if ¬ t.1 = 258 then (false, rfT t 2 t.2.1, k, NL) else
    if mtB NL k (tkw f t) = false then (false, rfT t 4 t.2.1, k, NL) else
    if ¬ (nxT f n t).1 = 44 then (true, nxT f n t, k + 1, va_up NL k (tkw f t)) else
    rnG f n w (nxT f n (nxT f n t)) (k + 1) (va_up NL k (tkw f t))
theorem rn_1 {f : Nat → Int32} {n w k : Nat} {t : TKQ} {NL : Nat → List Int32} (hw : 0 < w) (h : ¬ t.1 = 258) : rnG f n w t k NL = (false, rfT t 2 t.2.1, k, NL) := by
  obtain ⟨d, rfl⟩ : ∃ d, w = d + 1 := ⟨w - 1, by omega⟩
  exact if_pos h
theorem rn_2 {f : Nat → Int32} {n w k : Nat} {t : TKQ} {NL : Nat → List Int32} (hw : 0 < w) (h : t.1 = 258) (h2 : mtB NL k (tkw f t) = false) : rnG f n w t k NL = (false, rfT t 4 t.2.1, k, NL) := by
  obtain ⟨d, rfl⟩ : ∃ d, w = d + 1 := ⟨w - 1, by omega⟩
  exact (if_neg (fun z => z h)).trans (if_pos h2)
theorem rn_3 {f : Nat → Int32} {n w k : Nat} {t : TKQ} {NL : Nat → List Int32} (hw : 0 < w) (h : t.1 = 258) (h2 : mtB NL k (tkw f t) = true) (h3 : ¬ (nxT f n t).1 = 44) : rnG f n w t k NL = (true, nxT f n t, k + 1, va_up NL k (tkw f t)) := by
  obtain ⟨d, rfl⟩ : ∃ d, w = d + 1 := ⟨w - 1, by omega⟩
  exact (if_neg (fun z => z h)).trans ((if_neg (by rw [h2]; decide)).trans (if_pos h3))
theorem rn_4 {f : Nat → Int32} {n w k : Nat} {t : TKQ} {NL : Nat → List Int32} (hw : 0 < w) (h : t.1 = 258) (h2 : mtB NL k (tkw f t) = true) (h3 : (nxT f n t).1 = 44) : rnG f n w t k NL = rnG f n (w - 1) (nxT f n (nxT f n t)) (k + 1) (va_up NL k (tkw f t)) := by
  obtain ⟨d, rfl⟩ : ∃ d, w = d + 1 := ⟨w - 1, by omega⟩
  exact (if_neg (fun z => z h)).trans ((if_neg (by rw [h2]; decide)).trans (if_neg (fun z => z h3)))
/-- how far it goes -/
theorem rn_P {f : Nat → Int32} {n : Nat} : ∀ {w k : Nat} {t : TKQ} {NL : Nat → List Int32}, tkok n t → t.2.2.1 ≤ rqP (rnG f n w t k NL).1 (rnG f n w t k NL).2.1 ∧ tkok n (rnG f n w t k NL).2.1
  | 0, k, t, NL, h => ⟨Nat.le_refl _, h⟩
  | w + 1, k, t, NL, h => by
    have a1 := nx_ok (f := f) h.2.1
    have a2 := nx_ok (f := f) a1.1.2.1
    by_cases h1 : t.1 = 258
    · cases h2 : mtB NL k (tkw f t) with
      | false =>
        rw [rn_2 (w := w + 1) (by omega) h1 h2]
        exact ⟨Nat.le_of_eq (rfT_e t 4 t.2.1).2.2.symm, rfT_ok h⟩
      | true =>
        by_cases h3 : (nxT f n t).1 = 44
        · rw [rn_4 (w := w + 1) (by omega) h1 h2 h3]
          have ih := rn_P (f := f) (n := n) (w := w + 1 - 1) (k := k + 1) (NL := va_up NL k (tkw f t)) a2.1
          refine ⟨?_, ih.2⟩
          have := ih.1
          have := a2.1.1
          have := a1.1.1
          have := a1.2
          have := a2.2
          omega
        · rw [rn_3 (w := w + 1) (by omega) h1 h2 h3]
          exact ⟨a1.2, a1.1⟩
    · rw [rn_1 (w := w + 1) (by omega) h1]
      exact ⟨Nat.le_of_eq (rfT_e t 2 t.2.1).2.2.symm, rfT_ok h⟩
theorem rn_n {f : Nat → Int32} {n : Nat} : ∀ {w k : Nat} {t : TKQ} {NL : Nat → List Int32}, k ≤ 6 → (rnG f n w t k NL).2.2.1 ≤ 6
  | 0, k, t, NL, h => h
  | w + 1, k, t, NL, h => by
    by_cases h1 : t.1 = 258
    · cases h2 : mtB NL k (tkw f t) with
      | false => rw [rn_2 (w := w + 1) (by omega) h1 h2]; exact h
      | true =>
        have h6 : k < 6 := by
          unfold mtB at h2
          rw [Bool.and_eq_true] at h2
          exact of_decide_eq_true h2.2
        by_cases h3 : (nxT f n t).1 = 44
        · rw [rn_4 (w := w + 1) (by omega) h1 h2 h3]
          exact rn_n (w := w + 1 - 1) h6
        · rw [rn_3 (w := w + 1) (by omega) h1 h2 h3]
          exact h6
    · rw [rn_1 (w := w + 1) (by omega) h1]; exact h
def VS.rnm (x : VS) : RN := rnG x.tape x.qlen 7 x.tk 0 (fun _ => [])
theorem nmOk_s {dA : Nat → ClassId} {ws : va_W} {fn : Nat → Option Nat} {k p : Nat} {NL : Nat → List Int32} {M : List Int32} (h : nmOk dA ws fn k NL) (hw : isWo dA ws p M) (hl : M.length ≤ 65536) : nmOk dA ws (va_up fn k (some p)) (k + 1) (va_up NL k M) := by
  intro q hq
  by_cases e : q = k
  · refine ⟨p, if_pos e, ?_, ?_⟩
    · rw [show va_up NL k M q = M from if_pos e]; exact hw
    · rw [show va_up NL k M q = M from if_pos e]; exact hl
  · obtain ⟨p1, a1, a2, a3⟩ := h q (by omega)
    refine ⟨p1, (if_neg e).trans a1, ?_, ?_⟩
    · rw [show va_up NL k M q = NL q from if_neg e]; exact a2
    · rw [show va_up NL k M q = NL q from if_neg e]; exact a3
theorem d_Q_readNames_0 : decode prog_6_method_12_code 0 = .ok (.iconst 0, 1) := by decide +kernel
theorem d_Q_readNames_1 : decode prog_6_method_12_code 1 = .ok (.istore_n 2, 1) := by decide +kernel
theorem d_Q_readNames_2 : decode prog_6_method_12_code 2 = .ok (.iload_n 2, 1) := by decide +kernel
theorem d_Q_readNames_3 : decode prog_6_method_12_code 3 = .ok (.bipush 6, 2) := by decide +kernel
theorem d_Q_readNames_5 : decode prog_6_method_12_code 5 = .ok (.if_icmp .gt 76, 3) := by decide +kernel
theorem d_Q_readNames_8 : decode prog_6_method_12_code 8 = .ok (.aload_n 0, 1) := by decide +kernel
theorem d_Q_readNames_9 : decode prog_6_method_12_code 9 = .ok (.getfield 45, 3) := by decide +kernel
theorem d_Q_readNames_12 : decode prog_6_method_12_code 12 = .ok (.sipush 258, 3) := by decide +kernel
theorem d_Q_readNames_15 : decode prog_6_method_12_code 15 = .ok (.if_icmp .eq 13, 3) := by decide +kernel
theorem d_Q_readNames_28 : decode prog_6_method_12_code 28 = .ok (.aload_n 0, 1) := by decide +kernel
theorem d_Q_readNames_29 : decode prog_6_method_12_code 29 = .ok (.invokevirtual 87, 3) := by decide +kernel
theorem d_Q_readNames_32 : decode prog_6_method_12_code 32 = .ok (.astore_n 3, 1) := by decide +kernel
theorem d_Q_readNames_33 : decode prog_6_method_12_code 33 = .ok (.aload_n 1, 1) := by decide +kernel
theorem d_Q_readNames_34 : decode prog_6_method_12_code 34 = .ok (.aload_n 3, 1) := by decide +kernel
theorem d_Q_readNames_35 : decode prog_6_method_12_code 35 = .ok (.invokevirtual 124, 3) := by decide +kernel
theorem d_Q_readNames_38 : decode prog_6_method_12_code 38 = .ok (.ifCond .ne 13, 3) := by decide +kernel
theorem d_Q_readNames_51 : decode prog_6_method_12_code 51 = .ok (.aload_n 1, 1) := by decide +kernel
theorem d_Q_readNames_52 : decode prog_6_method_12_code 52 = .ok (.aload_n 3, 1) := by decide +kernel
theorem d_Q_readNames_53 : decode prog_6_method_12_code 53 = .ok (.invokevirtual 128, 3) := by decide +kernel
theorem d_Q_readNames_56 : decode prog_6_method_12_code 56 = .ok (.aload_n 0, 1) := by decide +kernel
theorem d_Q_readNames_57 : decode prog_6_method_12_code 57 = .ok (.invokevirtual 38, 3) := by decide +kernel
theorem d_Q_readNames_60 : decode prog_6_method_12_code 60 = .ok (.aload_n 0, 1) := by decide +kernel
theorem d_Q_readNames_61 : decode prog_6_method_12_code 61 = .ok (.getfield 45, 3) := by decide +kernel
theorem d_Q_readNames_64 : decode prog_6_method_12_code 64 = .ok (.bipush 44, 2) := by decide +kernel
theorem d_Q_readNames_66 : decode prog_6_method_12_code 66 = .ok (.if_icmp .eq 5, 3) := by decide +kernel
theorem d_Q_readNames_71 : decode prog_6_method_12_code 71 = .ok (.aload_n 0, 1) := by decide +kernel
theorem d_Q_readNames_72 : decode prog_6_method_12_code 72 = .ok (.invokevirtual 38, 3) := by decide +kernel
theorem d_Q_readNames_75 : decode prog_6_method_12_code 75 = .ok (.iinc 2 1, 3) := by decide +kernel
theorem d_Q_readNames_78 : decode prog_6_method_12_code 78 = .ok (.goto (-76), 3) := by decide +kernel
theorem d_Q_readNames_69 : decode prog_6_method_12_code 69 = .ok (.iconst 1, 1) := by decide +kernel
theorem d_Q_readNames_70 : decode prog_6_method_12_code 70 = .ok (.ireturn, 1) := by decide +kernel
theorem d_Q_readNames_41 : decode prog_6_method_12_code 41 = .ok (.aload_n 0, 1) := by decide +kernel
theorem d_Q_readNames_42 : decode prog_6_method_12_code 42 = .ok (.iconst 4, 1) := by decide +kernel
theorem d_Q_readNames_43 : decode prog_6_method_12_code 43 = .ok (.aload_n 0, 1) := by decide +kernel
theorem d_Q_readNames_44 : decode prog_6_method_12_code 44 = .ok (.getfield 48, 3) := by decide +kernel
theorem d_Q_readNames_47 : decode prog_6_method_12_code 47 = .ok (.invokevirtual 51, 3) := by decide +kernel
theorem d_Q_readNames_50 : decode prog_6_method_12_code 50 = .ok (.ireturn, 1) := by decide +kernel
theorem d_Q_readNames_18 : decode prog_6_method_12_code 18 = .ok (.aload_n 0, 1) := by decide +kernel
theorem d_Q_readNames_19 : decode prog_6_method_12_code 19 = .ok (.iconst 2, 1) := by decide +kernel
theorem d_Q_readNames_20 : decode prog_6_method_12_code 20 = .ok (.aload_n 0, 1) := by decide +kernel
theorem d_Q_readNames_21 : decode prog_6_method_12_code 21 = .ok (.getfield 48, 3) := by decide +kernel
theorem d_Q_readNames_24 : decode prog_6_method_12_code 24 = .ok (.invokevirtual 51, 3) := by decide +kernel
theorem d_Q_readNames_27 : decode prog_6_method_12_code 27 = .ok (.ireturn, 1) := by decide +kernel
theorem w1625 : Cond.methodLink "SeriesVault$Question" 87 ⟨"SeriesVault$Question", "tokenWord", "()LSeriesVault$Word;"⟩ ∈ aW := aw_of (tb_7 (List.mem_of_getElem? (i := 45) rfl)) rfl
theorem w1626 : Cond.code ⟨"SeriesVault$Question", "tokenWord", "()LSeriesVault$Word;"⟩ prog_6_method_15_code 1 (some (FieldType.object "SeriesVault$Word")) ∈ aW := aw_of (tb_7 (List.mem_of_getElem? (i := 48) rfl)) rfl
theorem w1627 : Cond.instanceMethod ⟨"SeriesVault$Question", "tokenWord", "()LSeriesVault$Word;"⟩ ∈ aW := aw_of (tb_7 (List.mem_of_getElem? (i := 47) rfl)) rfl
theorem w1628 : Cond.selects "SeriesVault$Question" ⟨"SeriesVault$Question", "tokenWord", "()LSeriesVault$Word;"⟩ ⟨"SeriesVault$Question", "tokenWord", "()LSeriesVault$Word;"⟩ ∈ aW := aw_pr (List.mem_map.mpr ⟨_, pv_3 (List.mem_of_getElem? (i := 14) rfl), rfl⟩) rfl
theorem w1629 : Cond.methodLink "SeriesVault$Question" 124 ⟨"SeriesVault$Step", "mayTakeName", "(LSeriesVault$Word;)Z"⟩ ∈ aW := aw_of (tb_7 (List.mem_of_getElem? (i := 97) rfl)) rfl
theorem w1630 : Cond.code ⟨"SeriesVault$Step", "mayTakeName", "(LSeriesVault$Word;)Z"⟩ prog_10_method_2_code 3 (some FieldType.boolean) ∈ aW := aw_of (tb_7 (List.mem_of_getElem? (i := 100) rfl)) rfl
theorem w1631 : Cond.instanceMethod ⟨"SeriesVault$Step", "mayTakeName", "(LSeriesVault$Word;)Z"⟩ ∈ aW := aw_of (tb_7 (List.mem_of_getElem? (i := 98) rfl)) rfl
theorem w1632 : Cond.selects "SeriesVault$Step" ⟨"SeriesVault$Step", "mayTakeName", "(LSeriesVault$Word;)Z"⟩ ⟨"SeriesVault$Step", "mayTakeName", "(LSeriesVault$Word;)Z"⟩ ∈ aW := aw_of (tb_7 (List.mem_of_getElem? (i := 99) rfl)) rfl
theorem w1633 : Cond.methodLink "SeriesVault$Question" 128 ⟨"SeriesVault$Step", "addName", "(LSeriesVault$Word;)V"⟩ ∈ aW := aw_of (tb_7 (List.mem_of_getElem? (i := 102) rfl)) rfl
theorem w1634 : Cond.code ⟨"SeriesVault$Step", "addName", "(LSeriesVault$Word;)V"⟩ prog_10_method_3_code 2 none ∈ aW := aw_of (tb_7 (List.mem_of_getElem? (i := 105) rfl)) rfl
theorem w1635 : Cond.instanceMethod ⟨"SeriesVault$Step", "addName", "(LSeriesVault$Word;)V"⟩ ∈ aW := aw_of (tb_7 (List.mem_of_getElem? (i := 103) rfl)) rfl
theorem w1636 : Cond.selects "SeriesVault$Step" ⟨"SeriesVault$Step", "addName", "(LSeriesVault$Word;)V"⟩ ⟨"SeriesVault$Step", "addName", "(LSeriesVault$Word;)V"⟩ ∈ aW := aw_of (tb_7 (List.mem_of_getElem? (i := 104) rfl)) rfl
set_option maxHeartbeats 4000000 in
set_option maxRecDepth 100000 in
theorem v_QreadNames (l : Launch) (D : va_G) (dA : Nat → ClassId) (sz : Nat) (h : Nat) (ad : Nat → Nat) (sp : Nat) (kd : Int32) (pl : Nat) (nu : Int64) (na : Nat) (ln : Nat) (lt : Nat) (mk : Nat) (x : VS) (hk : x.qok) : Met l ⟨"SeriesVault$Question", "readNames", "(LSeriesVault$Step;)Z"⟩ [Cond.code ⟨"SeriesVault$Question", "readNames", "(LSeriesVault$Step;)Z"⟩ prog_6_method_12_code 4 (some FieldType.boolean)] { frames := 6, cells := 2 * (rqP x.rnm.1 x.rnm.2.1 - x.qst), slots := 2 * (rqP x.rnm.1 x.rnm.2.1 - x.qst), locals := 129 } (pC D dA [.ref (ad 22), .ref sp] ([(sp, .inr (13, [.int kd, .int (nI pl), .long nu, .ref na, .int 0, .ref ln, .ref lt, .ref mk]))] ++ ([(na, .inl (dA 6, 6, .inr (.inr (.inr (.inr (fun _ => none))))))] ++ (VW dA h ad x))) sz) (va_Qi (fun (r9 : Int32) (u9 : VS × (Nat → Option Nat) × Nat) => r9 = bI x.rnm.1 ∧ x.qp u9.1 ∧ u9.1.qok ∧ u9.1.tk = x.rnm.2.1 ∧ u9.2.2 = x.rnm.2.2.1 ∧ nmOk dA u9.1.pl u9.2.1 u9.2.2 x.rnm.2.2.2) (fun (u9 : VS × (Nat → Option Nat) × Nat) t9 => bW D (va_A ([(sp, .inr (13, [.int kd, .int (nI pl), .long nu, .ref na, .int 0, .ref ln, .ref lt, .ref mk]))] ++ ([(na, .inl (dA 6, 6, .inr (.inr (.inr (.inr (fun _ => none))))))] ++ (VW dA h ad x))) sz) ([(sp, .inr (13, [.int kd, .int (nI pl), .long nu, .ref na, .int (nI u9.2.2), .ref ln, .ref lt, .ref mk]))] ++ ([(na, .inl (dA 6, 6, .inr (.inr (.inr (.inr u9.2.1)))))] ++ (VW dA h ad u9.1))) t9) (va_A ([(sp, .inr (13, [.int kd, .int (nI pl), .long nu, .ref na, .int 0, .ref ln, .ref lt, .ref mk]))] ++ ([(na, .inl (dA 6, 6, .inr (.inr (.inr (.inr (fun _ => none))))))] ++ (VW dA h ad x))) sz)) (2 * (rqP x.rnm.1 x.rnm.2.1 - x.qst)) (2 * (rqP x.rnm.1 x.rnm.2.1 - x.qst)) (va_A ([(sp, .inr (13, [.int kd, .int (nI pl), .long nu, .ref na, .int 0, .ref ln, .ref lt, .ref mk]))] ++ ([(na, .inl (dA 6, 6, .inr (.inr (.inr (.inr (fun _ => none))))))] ++ (VW dA h ad x))) sz) := by
  refine mkC (y := ⟨"SeriesVault$Question", "readNames", "(LSeriesVault$Step;)Z"⟩) (cc := prog_6_method_12_code) (maxL := 4) (av := [.ref (ad 22), .ref sp]) (ws := [(sp, .inr (13, [.int kd, .int (nI pl), .long nu, .ref na, .int 0, .ref ln, .ref lt, .ref mk]))] ++ ([(na, .inl (dA 6, 6, .inr (.inr (.inr (.inr (fun _ => none))))))] ++ (VW dA h ad x))) (sz := sz) (Qc := fun A => va_Qi (fun (r9 : Int32) (u9 : VS × (Nat → Option Nat) × Nat) => r9 = bI x.rnm.1 ∧ x.qp u9.1 ∧ u9.1.qok ∧ u9.1.tk = x.rnm.2.1 ∧ u9.2.2 = x.rnm.2.2.1 ∧ nmOk dA u9.1.pl u9.2.1 u9.2.2 x.rnm.2.2.2) (fun (u9 : VS × (Nat → Option Nat) × Nat) t9 => bW D A ([(sp, .inr (13, [.int kd, .int (nI pl), .long nu, .ref na, .int (nI u9.2.2), .ref ln, .ref lt, .ref mk]))] ++ ([(na, .inl (dA 6, 6, .inr (.inr (.inr (.inr u9.2.1)))))] ++ (VW dA h ad u9.1))) t9) A) (by decide) (Nat.le_of_ble_eq_true rfl) ?_
  intro A p e s m below meth c ls hsz hB
  obtain ⟨hx, hb, hr, hml, hown, hin, hlk, hE, hK, hP, hD, hS, hA, hN, hl⟩ := hB
  have hown : s.vm.findClass "SeriesVault$Question" = some m.cls := hown
  have hl : lv_has ls 4 [(0, .ref (ad 22)), (1, .ref sp)] := hl
  obtain ⟨H, hH⟩ : ∃ z, z = s.heap := ⟨_, rfl⟩
  have hP : va_P D vwCl ([(sp, .inr (13, [.int kd, .int (nI pl), .long nu, .ref na, .int 0, .ref ln, .ref lt, .ref mk]))] ++ ([(na, .inl (dA 6, 6, .inr (.inr (.inr (.inr (fun _ => none))))))] ++ (VW dA h ad x))) H := by rw [hH]; exact hP
  have hS : va_S A s.heap H [] := by rw [hH]; exact hS
  rw [← hH]
  have kb : x.qst ≤ x.qen ∧ x.qen ≤ x.qlen ∧ x.qlen ≤ x.tpN ∧ x.tpN ≤ 131072 ∧ x.qlen ≤ 16384 := ⟨hk.2.2.2.2.2.1, hk.2.2.2.2.2.2.1, hk.2.1, hk.2.2.1, hk.2.2.2.1⟩
  have kq : x.qtp = x.tpA := hk.1
  refine lv_iconst (v := 0) hx hb d_Q_readNames_0 (by decide) ?_
  refine lv_istore_n hx hb d_Q_readNames_1 rfl hl (by decide) rfl (fun ls hl => ?_)
  have hl : lv_has ls 4 [(2, .int 0), (0, .ref (ad 22)), (1, .ref sp)] := hl
  have L2 : ∀ (k9 : Nat) (i : Nat) (z : VS) (fn : Nat → Option Nat) (NL : Nat → List Int32) (i1 : i ≤ 6) (hkz : z.qok) (hqz : x.qp z) (hn : nmOk dA z.pl fn i NL) (er : rnG x.tape x.qlen (7 - i) z.tk i NL = x.rnm) (xs : x.qst ≤ z.qst) (hk9 : 7 - i = k9), ∀ (H : Heap) (locs : List Loc) (ls : Array Slot) (hP : va_P D vwCl ([(sp, .inr (13, [.int kd, .int (nI pl), .long nu, .ref na, .int (nI i), .ref ln, .ref lt, .ref mk]))] ++ ([(na, .inl (dA 6, 6, .inr (.inr (.inr (.inr fn)))))] ++ (VW dA h ad z))) H) (hD : va_D A ([(sp, .inr (13, [.int kd, .int (nI pl), .long nu, .ref na, .int (nI i), .ref ln, .ref lt, .ref mk]))] ++ ([(na, .inl (dA 6, 6, .inr (.inr (.inr (.inr fn)))))] ++ (VW dA h ad z)))) (hS : va_S A s.heap H locs) (hl : lv_has ls 4 [(2, .int (nI i)), (0, .ref (ad 22)), (1, .ref sp)]), W p l e ({ frames := 6, cells := 2 * (rqP x.rnm.1 x.rnm.2.1 - x.qst), slots := 2 * (rqP x.rnm.1 x.rnm.2.1 - x.qst), locals := 129 } : Room) s m ([.ref (ad 22), .ref sp] : List Value).toArray below meth c H locs (2 * (z.qst - x.qst)) (2 * (z.qst - x.qst)) (MQ below (va_Qi (fun (r9 : Int32) (u9 : VS × (Nat → Option Nat) × Nat) => r9 = bI x.rnm.1 ∧ x.qp u9.1 ∧ u9.1.qok ∧ u9.1.tk = x.rnm.2.1 ∧ u9.2.2 = x.rnm.2.2.1 ∧ nmOk dA u9.1.pl u9.2.1 u9.2.2 x.rnm.2.2.2) (fun (u9 : VS × (Nat → Option Nat) × Nat) t9 => bW D A ([(sp, .inr (13, [.int kd, .int (nI pl), .long nu, .ref na, .int (nI u9.2.2), .ref ln, .ref lt, .ref mk]))] ++ ([(na, .inl (dA 6, 6, .inr (.inr (.inr (.inr u9.2.1)))))] ++ (VW dA h ad u9.1))) t9) A) ([.ref (ad 22), .ref sp] : List Value).toArray s (2 * (rqP x.rnm.1 x.rnm.2.1 - x.qst)) (2 * (rqP x.rnm.1 x.rnm.2.1 - x.qst)) A) (F0 m 2 ls []) := by
    intro k9
    induction k9 using Nat.strongRecOn with
    | ind k9 ih2 =>
      intro i z fn NL i1 hkz hqz hn er xs hk9 H locs ls hP hD hS hl
      refine lv_iload_n hx hb d_Q_readNames_2 rfl (lv_at hl 0 rfl) ?_
      refine lv_bipush (v := 6) hx hb d_Q_readNames_3 (by decide) ?_
      refine lv_icmp_gt hx hb d_Q_readNames_5 (tgt := 81) rfl (fun g1 => ?_) (fun g1 => ?_)
      · have g1 := (nI_ltI (a := 6) (b := i) (by omega) (by omega)).mp g1; exfalso; omega
      have g1 := mt (nI_ltI (a := 6) (b := i) (by omega) (by omega)).mpr g1
      refine lv_aload_n hx hb d_Q_readNames_8 rfl (lv_at hl 1 rfl) ?_
      have kb_z : z.qst ≤ z.qen ∧ z.qen ≤ z.qlen ∧ z.qlen ≤ z.tpN ∧ z.tpN ≤ 131072 ∧ z.qlen ≤ 16384 := ⟨hkz.2.2.2.2.2.1, hkz.2.2.2.2.2.2.1, hkz.2.1, hkz.2.2.1, hkz.2.2.2.1⟩
      have kq_z : z.qtp = z.tpA := hkz.1
      have kf_z : z.tape = x.tape ∧ z.qlen = x.qlen := ⟨(qr_f (qp_qr hqz)).2.2.1, (qr_f (qp_qr hqz)).2.1⟩
      have p9 : z.qen ≤ rqP x.rnm.1 x.rnm.2.1 := by have e9 := (rn_P (f := x.tape) (w := 7 - i) (k := i) (NL := NL) (show tkok x.qlen z.tk by rw [← kf_z.2]; exact hkz.2.2.2.2.2)).1; rw [er] at e9; exact e9
      have p8 : ¬ z.qk = 256 → z.qst < z.qen := hkz.2.2.2.2.2.2.2.1
      refine gF (v := .int z.qk) hx hb hown hE hK hP 38 rfl rfl layQ 2 (by decide) w663 rfl d_Q_readNames_9 ?_
      refine lv_sipush (v := 258) hx hb d_Q_readNames_12 (by decide) ?_
      refine lv_icmp_eq hx hb d_Q_readNames_15 (tgt := 28) rfl (fun g2 => ?_) (fun g2 => ?_)
      · have g2 := g2
        refine lv_aload_n hx hb d_Q_readNames_28 rfl (lv_at hl 1 rfl) ?_
        have p7 : z.qst < z.qen := p8 (by rw [g2]; decide)
        have hPc : va_P D vwCl (VW dA h ad z) H := spP (wr := [(sp, .inr (13, [.int kd, .int (nI pl), .long nu, .ref na, .int (nI i), .ref ln, .ref lt, .ref mk]))] ++ ([(na, .inl (dA 6, 6, .inr (.inr (.inr (.inr fn)))))])) hP
        have hDc : va_D A (VW dA h ad z) := spD (wr := [(sp, .inr (13, [.int kd, .int (nI pl), .long nu, .ref na, .int (nI i), .ref ln, .ref lt, .ref mk]))] ++ ([(na, .inl (dA 6, 6, .inr (.inr (.inr (.inr fn)))))])) hD
        refine jkR (wr := [(sp, .inr (13, [.int kd, .int (nI pl), .long nu, .ref na, .int (nI i), .ref ln, .ref lt, .ref mk]))] ++ ([(na, .inl (dA 6, 6, .inr (.inr (.inr (.inr fn)))))])) (rnV (As := []) (rest := []) hx hb hml hown hE hK (hN _ _ hS) hPc hDc (v_QtokenWord l D dA H.size h ad z hkz) (q0 := 36) rfl rfl w1626 w1625 w1627 w1628 w665 rfl rfl ⟨⟨by decide, by decide⟩, rfl⟩ ⟨(Nat.le_of_ble_eq_true rfl), (Nat.le_of_ble_eq_true rfl)⟩ rfl hl.1 rfl (Nat.le_of_ble_eq_true rfl) d_Q_readNames_29 ⟨(show 2 * (z.qst - x.qst) + 2 ≤ 2 * (rqP x.rnm.1 x.rnm.2.1 - x.qst) by omega), (show 2 * (z.qst - x.qst) + (1 + (z.qen - z.qst)) ≤ 2 * (rqP x.rnm.1 x.rnm.2.1 - x.qst) by omega)⟩) hP hD hS hA (fun u3 wq H locs hp9 hP hD hS => ?_)
        obtain ⟨z1, h9u⟩ : ∃ z9, z9 = u3 := ⟨_, rfl⟩
        subst h9u
        have hP : va_P D vwCl ([(sp, .inr (13, [.int kd, .int (nI pl), .long nu, .ref na, .int (nI i), .ref ln, .ref lt, .ref mk]))] ++ ([(na, .inl (dA 6, 6, .inr (.inr (.inr (.inr fn)))))] ++ (VW dA h ad z1))) H := hP
        have hD : va_D A ([(sp, .inr (13, [.int kd, .int (nI pl), .long nu, .ref na, .int (nI i), .ref ln, .ref lt, .ref mk]))] ++ ([(na, .inl (dA 6, 6, .inr (.inr (.inr (.inr fn)))))] ++ (VW dA h ad z1))) := hD
        obtain ⟨f_k_4, f_w_5⟩ := hp9
        refine lv_astore_n hx hb d_Q_readNames_32 rfl hl (by decide) rfl (fun ls hl => ?_)
        have hl : lv_has ls 4 [(3, .ref wq), (2, .int (nI i)), (0, .ref (ad 22)), (1, .ref sp)] := hl
        refine lv_aload_n hx hb d_Q_readNames_33 rfl (lv_at hl 3 rfl) ?_
        refine lv_aload_n hx hb d_Q_readNames_34 rfl (lv_at hl 0 rfl) ?_
        obtain ⟨hk_z1, qq_z1, tk_z1⟩ := qok_pk hkz f_k_4
        have qp_z1 := qp_tr hqz qq_z1
        have tt_z1 : z1.tk = z.tk := by rw [tk_z1]
        have kb_z1 : z1.qst ≤ z1.qen ∧ z1.qen ≤ z1.qlen ∧ z1.qlen ≤ z1.tpN ∧ z1.tpN ≤ 131072 ∧ z1.qlen ≤ 16384 := ⟨hk_z1.2.2.2.2.2.1, hk_z1.2.2.2.2.2.2.1, hk_z1.2.1, hk_z1.2.2.1, hk_z1.2.2.2.1⟩
        have kq_z1 : z1.qtp = z1.tpA := hk_z1.1
        have kf_z1 : z1.tape = x.tape ∧ z1.qlen = x.qlen := ⟨(qr_f (qp_qr qp_z1)).2.2.1, (qr_f (qp_qr qp_z1)).2.1⟩
        have w9 : isWo dA z1.pl wq (tkw x.tape z.tk) := by rw [← kf_z.1]; exact f_w_5
        have l9 : (tkw x.tape z.tk).length ≤ 65536 := by unfold tkw; rw [seg_len]; show z.qen - z.qst ≤ 65536; omega
        have hn1 := nmOk_m qq_z1.2 hn
        refine jkI (wr := []) (rnV (As := [.ref wq]) (rest := []) hx hb hml hown hE hK (hN _ _ hS) hP hD (v_EmayTake l D dA H.size (VW dA h ad z1) sp kd pl nu na i ln lt mk fn wq NL (tkw x.tape z.tk) (nmOk_m (fun _ hm => (plm hm)) hn1) (show i ≤ 6 from by omega) (isWo_m (fun _ hm => (plm hm)) w9) l9) (q0 := 0) rfl rfl w1630 w1629 w1631 w1632 w1496 rfl rfl ⟨⟨by decide, by decide⟩, rfl⟩ ⟨(Nat.le_of_ble_eq_true rfl), (Nat.le_of_ble_eq_true rfl)⟩ rfl hl.1 rfl (Nat.le_of_ble_eq_true rfl) d_Q_readNames_35 ⟨(show 2 * (z.qst - x.qst) + 2 + 0 ≤ 2 * (rqP x.rnm.1 x.rnm.2.1 - x.qst) by omega), (show 2 * (z.qst - x.qst) + (1 + (z.qen - z.qst)) + 0 ≤ 2 * (rqP x.rnm.1 x.rnm.2.1 - x.qst) by omega)⟩) hP hD hS hA (fun r6 u7 H locs hp9 hP hD hS => ?_)
        have hP : va_P D vwCl ([(sp, .inr (13, [.int kd, .int (nI pl), .long nu, .ref na, .int (nI i), .ref ln, .ref lt, .ref mk]))] ++ ([(na, .inl (dA 6, 6, .inr (.inr (.inr (.inr fn)))))] ++ (VW dA h ad z1))) H := hP
        have hD : va_D A ([(sp, .inr (13, [.int kd, .int (nI pl), .long nu, .ref na, .int (nI i), .ref ln, .ref lt, .ref mk]))] ++ ([(na, .inl (dA 6, 6, .inr (.inr (.inr (.inr fn)))))] ++ (VW dA h ad z1))) := hD
        replace hp9 : bI (mtB NL i (tkw x.tape z.tk)) = r6 := Eq.symm hp9
        subst hp9
        refine lv_if_ne hx hb d_Q_readNames_38 (tgt := 51) rfl (fun g8 => ?_) (fun g8 => ?_)
        · have g8 := bI_n0 g8
          refine lv_aload_n hx hb d_Q_readNames_51 rfl (lv_at hl 3 rfl) ?_
          refine lv_aload_n hx hb d_Q_readNames_52 rfl (lv_at hl 0 rfl) ?_
          have i6 : i < 6 := by have e9 := g8; unfold mtB at e9; rw [Bool.and_eq_true] at e9; exact of_decide_eq_true e9.2
          have i6 : i < 6 := by have e9 := g8; unfold mtB at e9; rw [Bool.and_eq_true] at e9; exact of_decide_eq_true e9.2
          refine jkV (wr := []) (rnV (As := [.ref wq]) (rest := []) hx hb hml hown hE hK (hN _ _ hS) hP hD (v_EaddName l D dA H.size (VW dA h ad z1) sp kd pl nu na i ln lt mk fn wq (tkw x.tape z.tk) i6 (isWo_m (fun _ hm => (plm hm)) w9)) (q0 := 0) rfl rfl w1634 w1633 w1635 w1636 w1496 rfl rfl ⟨⟨by decide, by decide⟩, rfl⟩ ⟨(Nat.le_of_ble_eq_true rfl), (Nat.le_of_ble_eq_true rfl)⟩ rfl hl.1 rfl (Nat.le_of_ble_eq_true rfl) d_Q_readNames_53 ⟨(show 2 * (z.qst - x.qst) + 2 + 0 + 0 ≤ 2 * (rqP x.rnm.1 x.rnm.2.1 - x.qst) by omega), (show 2 * (z.qst - x.qst) + (1 + (z.qen - z.qst)) + 0 + 0 ≤ 2 * (rqP x.rnm.1 x.rnm.2.1 - x.qst) by omega)⟩) hP hD hS hA (fun u10 H locs hp9 hP hD hS => ?_)
          have hP : va_P D vwCl ([(sp, .inr (13, [.int kd, .int (nI pl), .long nu, .ref na, .int (nI (i + 1)), .ref ln, .ref lt, .ref mk]))] ++ ([(na, .inl (dA 6, 6, .inr (.inr (.inr (.inr (va_up fn i (some wq)))))))] ++ (VW dA h ad z1))) H := hP
          have hD : va_D A ([(sp, .inr (13, [.int kd, .int (nI pl), .long nu, .ref na, .int (nI (i + 1)), .ref ln, .ref lt, .ref mk]))] ++ ([(na, .inl (dA 6, 6, .inr (.inr (.inr (.inr (va_up fn i (some wq)))))))] ++ (VW dA h ad z1))) := hD
          refine lv_aload_n hx hb d_Q_readNames_56 rfl (lv_at hl 2 rfl) ?_
          have hPc : va_P D vwCl (VW dA h ad z1) H := spP (wr := [(sp, .inr (13, [.int kd, .int (nI pl), .long nu, .ref na, .int (nI (i + 1)), .ref ln, .ref lt, .ref mk]))] ++ ([(na, .inl (dA 6, 6, .inr (.inr (.inr (.inr (va_up fn i (some wq)))))))])) hP
          have hDc : va_D A (VW dA h ad z1) := spD (wr := [(sp, .inr (13, [.int kd, .int (nI pl), .long nu, .ref na, .int (nI (i + 1)), .ref ln, .ref lt, .ref mk]))] ++ ([(na, .inl (dA 6, 6, .inr (.inr (.inr (.inr (va_up fn i (some wq)))))))])) hD
          refine jkV (wr := [(sp, .inr (13, [.int kd, .int (nI pl), .long nu, .ref na, .int (nI (i + 1)), .ref ln, .ref lt, .ref mk]))] ++ ([(na, .inl (dA 6, 6, .inr (.inr (.inr (.inr (va_up fn i (some wq)))))))])) (rnV (As := []) (rest := []) hx hb hml hown hE hK (hN _ _ hS) hPc hDc (v_Qadvance l D dA H.size h ad z1 kq_z1 (show z1.qlen ≤ z1.tpN from by omega) (show z1.tpN ≤ 131072 from by omega) (show z1.qen ≤ z1.qlen from by omega)) (q0 := 36) rfl rfl w685 w684 w686 w687 w665 rfl rfl ⟨⟨by decide, by decide⟩, rfl⟩ ⟨(Nat.le_of_ble_eq_true rfl), (Nat.le_of_ble_eq_true rfl)⟩ rfl hl.1 rfl (Nat.le_of_ble_eq_true rfl) d_Q_readNames_57 ⟨(show 2 * (z.qst - x.qst) + 2 + 0 + 0 + 0 ≤ 2 * (rqP x.rnm.1 x.rnm.2.1 - x.qst) by omega), (show 2 * (z.qst - x.qst) + (1 + (z.qen - z.qst)) + 0 + 0 + 0 ≤ 2 * (rqP x.rnm.1 x.rnm.2.1 - x.qst) by omega)⟩) hP hD hS hA (fun u12 H locs hp9 hP hD hS => ?_)
          obtain ⟨z2, h9u⟩ : ∃ z9, z9 = u12 := ⟨_, rfl⟩
          subst h9u
          have hP : va_P D vwCl ([(sp, .inr (13, [.int kd, .int (nI pl), .long nu, .ref na, .int (nI (i + 1)), .ref ln, .ref lt, .ref mk]))] ++ ([(na, .inl (dA 6, 6, .inr (.inr (.inr (.inr (va_up fn i (some wq)))))))] ++ (VW dA h ad z2))) H := hP
          have hD : va_D A ([(sp, .inr (13, [.int kd, .int (nI pl), .long nu, .ref na, .int (nI (i + 1)), .ref ln, .ref lt, .ref mk]))] ++ ([(na, .inl (dA 6, 6, .inr (.inr (.inr (.inr (va_up fn i (some wq)))))))] ++ (VW dA h ad z2))) := hD
          have f_e_13 := hp9
          refine lv_aload_n hx hb d_Q_readNames_60 rfl (lv_at hl 2 rfl) ?_
          obtain ⟨hk_z2, qq_z2, tk_z2⟩ := qok_adv hk_z1 f_e_13
          have qp_z2 := qp_tr qp_z1 qq_z2
          have tt_z2 : z2.tk = nxT x.tape x.qlen z.tk := by rw [tk_z2, kf_z1.1, kf_z1.2, tt_z1]
          have kb_z2 : z2.qst ≤ z2.qen ∧ z2.qen ≤ z2.qlen ∧ z2.qlen ≤ z2.tpN ∧ z2.tpN ≤ 131072 ∧ z2.qlen ≤ 16384 := ⟨hk_z2.2.2.2.2.2.1, hk_z2.2.2.2.2.2.2.1, hk_z2.2.1, hk_z2.2.2.1, hk_z2.2.2.2.1⟩
          have kq_z2 : z2.qtp = z2.tpA := hk_z2.1
          have kf_z2 : z2.tape = x.tape ∧ z2.qlen = x.qlen := ⟨(qr_f (qp_qr qp_z2)).2.2.1, (qr_f (qp_qr qp_z2)).2.1⟩
          refine gF (v := .int z2.qk) hx hb hown hE hK hP 38 rfl rfl layQ 2 (by decide) w663 rfl d_Q_readNames_61 ?_
          refine lv_bipush (v := 44) hx hb d_Q_readNames_64 (by decide) ?_
          refine lv_icmp_eq hx hb d_Q_readNames_66 (tgt := 71) rfl (fun g14 => ?_) (fun g14 => ?_)
          · have g14 := g14
            refine lv_aload_n hx hb d_Q_readNames_71 rfl (lv_at hl 2 rfl) ?_
            have hPc : va_P D vwCl (VW dA h ad z2) H := spP (wr := [(sp, .inr (13, [.int kd, .int (nI pl), .long nu, .ref na, .int (nI (i + 1)), .ref ln, .ref lt, .ref mk]))] ++ ([(na, .inl (dA 6, 6, .inr (.inr (.inr (.inr (va_up fn i (some wq)))))))])) hP
            have hDc : va_D A (VW dA h ad z2) := spD (wr := [(sp, .inr (13, [.int kd, .int (nI pl), .long nu, .ref na, .int (nI (i + 1)), .ref ln, .ref lt, .ref mk]))] ++ ([(na, .inl (dA 6, 6, .inr (.inr (.inr (.inr (va_up fn i (some wq)))))))])) hD
            refine jkV (wr := [(sp, .inr (13, [.int kd, .int (nI pl), .long nu, .ref na, .int (nI (i + 1)), .ref ln, .ref lt, .ref mk]))] ++ ([(na, .inl (dA 6, 6, .inr (.inr (.inr (.inr (va_up fn i (some wq)))))))])) (rnV (As := []) (rest := []) hx hb hml hown hE hK (hN _ _ hS) hPc hDc (v_Qadvance l D dA H.size h ad z2 kq_z2 (show z2.qlen ≤ z2.tpN from by omega) (show z2.tpN ≤ 131072 from by omega) (show z2.qen ≤ z2.qlen from by omega)) (q0 := 36) rfl rfl w685 w684 w686 w687 w665 rfl rfl ⟨⟨by decide, by decide⟩, rfl⟩ ⟨(Nat.le_of_ble_eq_true rfl), (Nat.le_of_ble_eq_true rfl)⟩ rfl hl.1 rfl (Nat.le_of_ble_eq_true rfl) d_Q_readNames_72 ⟨(show 2 * (z.qst - x.qst) + 2 + 0 + 0 + 0 + 0 ≤ 2 * (rqP x.rnm.1 x.rnm.2.1 - x.qst) by omega), (show 2 * (z.qst - x.qst) + (1 + (z.qen - z.qst)) + 0 + 0 + 0 + 0 ≤ 2 * (rqP x.rnm.1 x.rnm.2.1 - x.qst) by omega)⟩) hP hD hS hA (fun u16 H locs hp9 hP hD hS => ?_)
            obtain ⟨z3, h9u⟩ : ∃ z9, z9 = u16 := ⟨_, rfl⟩
            subst h9u
            have hP : va_P D vwCl ([(sp, .inr (13, [.int kd, .int (nI pl), .long nu, .ref na, .int (nI (i + 1)), .ref ln, .ref lt, .ref mk]))] ++ ([(na, .inl (dA 6, 6, .inr (.inr (.inr (.inr (va_up fn i (some wq)))))))] ++ (VW dA h ad z3))) H := hP
            have hD : va_D A ([(sp, .inr (13, [.int kd, .int (nI pl), .long nu, .ref na, .int (nI (i + 1)), .ref ln, .ref lt, .ref mk]))] ++ ([(na, .inl (dA 6, 6, .inr (.inr (.inr (.inr (va_up fn i (some wq)))))))] ++ (VW dA h ad z3))) := hD
            have f_e_17 := hp9
            obtain ⟨hk_z3, qq_z3, tk_z3⟩ := qok_adv hk_z2 f_e_17
            have qp_z3 := qp_tr qp_z2 qq_z3
            have tt_z3 : z3.tk = nxT x.tape x.qlen (nxT x.tape x.qlen z.tk) := by rw [tk_z3, kf_z2.1, kf_z2.2, tt_z2]
            have kb_z3 : z3.qst ≤ z3.qen ∧ z3.qen ≤ z3.qlen ∧ z3.qlen ≤ z3.tpN ∧ z3.tpN ≤ 131072 ∧ z3.qlen ≤ 16384 := ⟨hk_z3.2.2.2.2.2.1, hk_z3.2.2.2.2.2.2.1, hk_z3.2.1, hk_z3.2.2.1, hk_z3.2.2.2.1⟩
            have kq_z3 : z3.qtp = z3.tpA := hk_z3.1
            have kf_z3 : z3.tape = x.tape ∧ z3.qlen = x.qlen := ⟨(qr_f (qp_qr qp_z3)).2.2.1, (qr_f (qp_qr qp_z3)).2.1⟩
            have c3 := (nx_ok (f := x.tape) (n := x.qlen) (t := nxT x.tape x.qlen z.tk) (by rw [← tt_z2, ← kf_z2.2]; exact hk_z2.2.2.2.2.2.2.1)).2
            have c4 := (nx_ok (f := x.tape) (n := x.qlen) (t := z.tk) (by rw [← kf_z.2]; exact hkz.2.2.2.2.2.2.1)).2
            rw [← tt_z3, ← tt_z2] at c3
            rw [← tt_z2] at c4
            have c5 : z2.qen ≤ z3.qst := c3
            have c6 : z.qen ≤ z2.qst := c4
            refine lv_iinc (k := 1) (v := nI (i + 1)) hx hb d_Q_readNames_75 hl rfl (iincN (i) 1 1 (by decide)) (by decide) rfl (fun ls hl => ?_)
            have hl : lv_has ls 4 [(2, .int (nI (i + 1))), (3, .ref wq), (0, .ref (ad 22)), (1, .ref sp)] := hl
            refine lv_goto hx hb d_Q_readNames_78 (tgt := 2) rfl ?_
            refine W.widen (k := 2 * (z3.qst - x.qst)) (n := 2 * (z3.qst - x.qst)) (show 2 * (z.qst - x.qst) + 2 + 0 + 0 + 0 + 0 ≤ 2 * (z3.qst - x.qst) from by omega) (show 2 * (z.qst - x.qst) + (1 + (z.qen - z.qst)) + 0 + 0 + 0 + 0 ≤ 2 * (z3.qst - x.qst) from by omega) ?_
            exact ih2 _ (by omega) (i + 1) z3 (va_up fn i (some wq)) (va_up NL i (tkw x.tape z.tk)) (by have e9 := g8; unfold mtB at e9; rw [Bool.and_eq_true] at e9; have := of_decide_eq_true e9.2; omega) hk_z3 qp_z3 (nmOk_m (fun c hc => qq_z3.2 c (qq_z2.2 c hc)) (nmOk_s hn1 w9 l9)) (by rw [← er, rn_4 (w := 7 - i) (by omega) g2 g8 (by rw [← tt_z2]; exact g14), ← tt_z3, show 7 - i - 1 = 7 - (i + 1) by omega]) (by omega) rfl H _ ls hP hD hS (lv_sub hl [0, 2, 3] rfl)
          · have g14 := g14
            refine lv_iconst (v := 1) hx hb d_Q_readNames_69 (by decide) ?_
            exact rfZ hx hb hr (bI_nar true) hlk hS (⟨z2, va_up fn i (some wq), i + 1⟩) (by have E := (er.symm.trans (rn_3 (by omega) g2 g8 (by rw [← tt_z2]; exact g14))); exact ⟨by rw [E]; rfl, qp_z2, hk_z2, by rw [E]; exact tt_z2, by have e9 := congrArg (fun q : RN => q.2.2.1) E; exact e9.symm, by rw [E]; exact nmOk_m qq_z2.2 (nmOk_s hn1 w9 l9)⟩) hP hD (show 2 * (z.qst - x.qst) + 2 + 0 + 0 + 0 ≤ 2 * (rqP x.rnm.1 x.rnm.2.1 - x.qst) by omega) (show 2 * (z.qst - x.qst) + (1 + (z.qen - z.qst)) + 0 + 0 + 0 ≤ 2 * (rqP x.rnm.1 x.rnm.2.1 - x.qst) by omega) d_Q_readNames_70
        · have g8 := bI_0 g8
          refine lv_aload_n hx hb d_Q_readNames_41 rfl (lv_at hl 2 rfl) ?_
          refine lv_iconst (v := 4) hx hb d_Q_readNames_42 (by decide) ?_
          refine lv_aload_n hx hb d_Q_readNames_43 rfl (lv_at hl 2 rfl) ?_
          refine gF (v := .int (nI z1.qst)) hx hb hown hE hK hP 38 rfl rfl layQ 3 (by decide) w662 rfl d_Q_readNames_44 ?_
          have hPc : va_P D vwCl (VW dA h ad z1) H := spP (wr := [(sp, .inr (13, [.int kd, .int (nI pl), .long nu, .ref na, .int (nI i), .ref ln, .ref lt, .ref mk]))] ++ ([(na, .inl (dA 6, 6, .inr (.inr (.inr (.inr fn)))))])) hP
          have hDc : va_D A (VW dA h ad z1) := spD (wr := [(sp, .inr (13, [.int kd, .int (nI pl), .long nu, .ref na, .int (nI i), .ref ln, .ref lt, .ref mk]))] ++ ([(na, .inl (dA 6, 6, .inr (.inr (.inr (.inr fn)))))])) hD
          refine jkI (wr := [(sp, .inr (13, [.int kd, .int (nI pl), .long nu, .ref na, .int (nI i), .ref ln, .ref lt, .ref mk]))] ++ ([(na, .inl (dA 6, 6, .inr (.inr (.inr (.inr fn)))))])) (rnV (As := [.int 4, .int (nI z1.qst)]) (rest := []) hx hb hml hown hE hK (hN _ _ hS) hPc hDc (v_Qrefuse l D dA H.size h ad z1 4 z1.qst) (q0 := 36) rfl rfl w666 w664 w667 w668 w665 rfl rfl ⟨⟨by decide, by decide⟩, rfl⟩ ⟨(Nat.le_of_ble_eq_true rfl), (Nat.le_of_ble_eq_true rfl)⟩ rfl hl.1 rfl (Nat.le_of_ble_eq_true rfl) d_Q_readNames_47 ⟨(show 2 * (z.qst - x.qst) + 2 + 0 + 0 ≤ 2 * (rqP x.rnm.1 x.rnm.2.1 - x.qst) by omega), (show 2 * (z.qst - x.qst) + (1 + (z.qen - z.qst)) + 0 + 0 ≤ 2 * (rqP x.rnm.1 x.rnm.2.1 - x.qst) by omega)⟩) hP hD hS hA (fun r18 u19 H locs hp9 hP hD hS => ?_)
          obtain ⟨y2, h9u⟩ : ∃ z9, z9 = u19 := ⟨_, rfl⟩
          subst h9u
          have hP : va_P D vwCl ([(sp, .inr (13, [.int kd, .int (nI pl), .long nu, .ref na, .int (nI i), .ref ln, .ref lt, .ref mk]))] ++ ([(na, .inl (dA 6, 6, .inr (.inr (.inr (.inr fn)))))] ++ (VW dA h ad y2))) H := hP
          have hD : va_D A ([(sp, .inr (13, [.int kd, .int (nI pl), .long nu, .ref na, .int (nI i), .ref ln, .ref lt, .ref mk]))] ++ ([(na, .inl (dA 6, 6, .inr (.inr (.inr (.inr fn)))))] ++ (VW dA h ad y2))) := hD
          obtain ⟨hp9, f_e_20⟩ := hp9
          replace hp9 : 0 = r18 := Eq.symm hp9
          subst hp9
          obtain ⟨hk_y2, qq_y2, tk_y2⟩ := qok_rfq hk_z1 f_e_20
          have qp_y2 := qp_tr qp_z1 qq_y2
          have tt_y2 : y2.tk = rfT z.tk 4 z.tk.2.1 := by rw [tk_y2, show z1.qst = z1.tk.2.1 from rfl, tt_z1]
          have kb_y2 : y2.qst ≤ y2.qen ∧ y2.qen ≤ y2.qlen ∧ y2.qlen ≤ y2.tpN ∧ y2.tpN ≤ 131072 ∧ y2.qlen ≤ 16384 := ⟨hk_y2.2.2.2.2.2.1, hk_y2.2.2.2.2.2.2.1, hk_y2.2.1, hk_y2.2.2.1, hk_y2.2.2.2.1⟩
          have kq_y2 : y2.qtp = y2.tpA := hk_y2.1
          have kf_y2 : y2.tape = x.tape ∧ y2.qlen = x.qlen := ⟨(qr_f (qp_qr qp_y2)).2.2.1, (qr_f (qp_qr qp_y2)).2.1⟩
          exact rfZ hx hb hr (bI_nar false) hlk hS (⟨y2, fn, i⟩) (by have E := (er.symm.trans (rn_2 (by omega) g2 g8)); exact ⟨by rw [E]; rfl, qp_y2, hk_y2, by rw [E]; exact tt_y2, by have e9 := congrArg (fun q : RN => q.2.2.1) E; exact e9.symm, by rw [E]; exact nmOk_m qq_y2.2 hn1⟩) hP hD (show 2 * (z.qst - x.qst) + 2 + 0 + 0 ≤ 2 * (rqP x.rnm.1 x.rnm.2.1 - x.qst) by omega) (show 2 * (z.qst - x.qst) + (1 + (z.qen - z.qst)) + 0 + 0 ≤ 2 * (rqP x.rnm.1 x.rnm.2.1 - x.qst) by omega) d_Q_readNames_50
      · have g2 := g2
        refine lv_aload_n hx hb d_Q_readNames_18 rfl (lv_at hl 1 rfl) ?_
        refine lv_iconst (v := 2) hx hb d_Q_readNames_19 (by decide) ?_
        refine lv_aload_n hx hb d_Q_readNames_20 rfl (lv_at hl 1 rfl) ?_
        refine gF (v := .int (nI z.qst)) hx hb hown hE hK hP 38 rfl rfl layQ 3 (by decide) w662 rfl d_Q_readNames_21 ?_
        have hPc : va_P D vwCl (VW dA h ad z) H := spP (wr := [(sp, .inr (13, [.int kd, .int (nI pl), .long nu, .ref na, .int (nI i), .ref ln, .ref lt, .ref mk]))] ++ ([(na, .inl (dA 6, 6, .inr (.inr (.inr (.inr fn)))))])) hP
        have hDc : va_D A (VW dA h ad z) := spD (wr := [(sp, .inr (13, [.int kd, .int (nI pl), .long nu, .ref na, .int (nI i), .ref ln, .ref lt, .ref mk]))] ++ ([(na, .inl (dA 6, 6, .inr (.inr (.inr (.inr fn)))))])) hD
        refine jkI (wr := [(sp, .inr (13, [.int kd, .int (nI pl), .long nu, .ref na, .int (nI i), .ref ln, .ref lt, .ref mk]))] ++ ([(na, .inl (dA 6, 6, .inr (.inr (.inr (.inr fn)))))])) (rnV (As := [.int 2, .int (nI z.qst)]) (rest := []) hx hb hml hown hE hK (hN _ _ hS) hPc hDc (v_Qrefuse l D dA H.size h ad z 2 z.qst) (q0 := 36) rfl rfl w666 w664 w667 w668 w665 rfl rfl ⟨⟨by decide, by decide⟩, rfl⟩ ⟨(Nat.le_of_ble_eq_true rfl), (Nat.le_of_ble_eq_true rfl)⟩ rfl hl.1 rfl (Nat.le_of_ble_eq_true rfl) d_Q_readNames_24 ⟨(show 2 * (z.qst - x.qst) + 0 ≤ 2 * (rqP x.rnm.1 x.rnm.2.1 - x.qst) by omega), (show 2 * (z.qst - x.qst) + 0 ≤ 2 * (rqP x.rnm.1 x.rnm.2.1 - x.qst) by omega)⟩) hP hD hS hA (fun r21 u22 H locs hp9 hP hD hS => ?_)
        obtain ⟨y1, h9u⟩ : ∃ z9, z9 = u22 := ⟨_, rfl⟩
        subst h9u
        have hP : va_P D vwCl ([(sp, .inr (13, [.int kd, .int (nI pl), .long nu, .ref na, .int (nI i), .ref ln, .ref lt, .ref mk]))] ++ ([(na, .inl (dA 6, 6, .inr (.inr (.inr (.inr fn)))))] ++ (VW dA h ad y1))) H := hP
        have hD : va_D A ([(sp, .inr (13, [.int kd, .int (nI pl), .long nu, .ref na, .int (nI i), .ref ln, .ref lt, .ref mk]))] ++ ([(na, .inl (dA 6, 6, .inr (.inr (.inr (.inr fn)))))] ++ (VW dA h ad y1))) := hD
        obtain ⟨hp9, f_e_23⟩ := hp9
        replace hp9 : 0 = r21 := Eq.symm hp9
        subst hp9
        obtain ⟨hk_y1, qq_y1, tk_y1⟩ := qok_rfq hkz f_e_23
        have qp_y1 := qp_tr hqz qq_y1
        have tt_y1 : y1.tk = rfT z.tk 2 z.tk.2.1 := by rw [tk_y1, show z.qst = z.tk.2.1 from rfl]
        have kb_y1 : y1.qst ≤ y1.qen ∧ y1.qen ≤ y1.qlen ∧ y1.qlen ≤ y1.tpN ∧ y1.tpN ≤ 131072 ∧ y1.qlen ≤ 16384 := ⟨hk_y1.2.2.2.2.2.1, hk_y1.2.2.2.2.2.2.1, hk_y1.2.1, hk_y1.2.2.1, hk_y1.2.2.2.1⟩
        have kq_y1 : y1.qtp = y1.tpA := hk_y1.1
        have kf_y1 : y1.tape = x.tape ∧ y1.qlen = x.qlen := ⟨(qr_f (qp_qr qp_y1)).2.2.1, (qr_f (qp_qr qp_y1)).2.1⟩
        exact rfZ hx hb hr (bI_nar false) hlk hS (⟨y1, fn, i⟩) (by have E := (er.symm.trans (rn_1 (by omega) g2)); exact ⟨by rw [E]; rfl, qp_y1, hk_y1, by rw [E]; exact tt_y1, by have e9 := congrArg (fun q : RN => q.2.2.1) E; exact e9.symm, by rw [E]; exact nmOk_m qq_y1.2 hn⟩) hP hD (show 2 * (z.qst - x.qst) + 0 ≤ 2 * (rqP x.rnm.1 x.rnm.2.1 - x.qst) by omega) (show 2 * (z.qst - x.qst) + 0 ≤ 2 * (rqP x.rnm.1 x.rnm.2.1 - x.qst) by omega) d_Q_readNames_27
  refine W.widen (k := 2 * (x.qst - x.qst)) (n := 2 * (x.qst - x.qst)) (show 0 ≤ 2 * (x.qst - x.qst) from by omega) (show 0 ≤ 2 * (x.qst - x.qst) from by omega) ?_
  exact L2 _ 0 x (fun _ => none) (fun _ => []) (Nat.zero_le _) hk (qp_rf x) (fun k hk => absurd hk (Nat.not_lt_zero k)) rfl (Nat.le_refl _) rfl H _ ls hP hD hS (lv_sub hl [0, 1, 2] rfl)
end
section
set_option maxHeartbeats 4000000 in
set_option maxRecDepth 100000 in
theorem v_copyOfi (l : Launch) (D : va_G) (dA : Nat → ClassId) (sz : Nat) (ws : va_W) (arr : Nat) (n : Nat) (f : Nat → Int32) (k : Nat) (m1 : (arr, .inl (dA 1, n, .inl f)) ∈ ws) (h1 : n < k) (h2 : k ≤ 131072) : Met l ⟨"java/util/Arrays", "copyOf", "([II)[I"⟩ [Cond.code ⟨"java/util/Arrays", "copyOf", "([II)[I"⟩ prog_38_method_123_code 3 (some (FieldType.array FieldType.int))] { frames := 1, cells := 1, slots := k, locals := 40 } (pC D dA [.ref arr, .int (nI k)] (ws) sz) (va_Qr (fun (_ : Unit) => True) (fun (u9 : Unit) (r9 : Nat) t9 => (True) ∧ bW D (va_A (ws) sz) ([(r9, .inl (dA 1, k, .inl (va_cpy f (fun _ => 0) 0 0 (min n k))))] ++ (ws)) t9) (va_A (ws) sz)) 1 k (va_A (ws) sz) := by
  refine mkC (y := ⟨"java/util/Arrays", "copyOf", "([II)[I"⟩) (cc := prog_38_method_123_code) (maxL := 3) (av := [.ref arr, .int (nI k)]) (ws := ws) (sz := sz) (Qc := fun A => va_Qr (fun (_ : Unit) => True) (fun (u9 : Unit) (r9 : Nat) t9 => (True) ∧ bW D A ([(r9, .inl (dA 1, k, .inl (va_cpy f (fun _ => 0) 0 0 (min n k))))] ++ (ws)) t9) A) (by decide) (Nat.le_of_ble_eq_true rfl) ?_
  intro A p e s m below meth c ls hsz hB
  obtain ⟨hx, hb, hr, hml, hown, hin, hlk, hE, hK, hP, hD, hS, hA, hN, hl⟩ := hB
  have hown : s.vm.findClass "java/util/Arrays" = some m.cls := hown
  have hl : lv_has ls 3 [(0, .ref arr), (1, .int (nI k))] := hl
  obtain ⟨H, hH⟩ : ∃ z, z = s.heap := ⟨_, rfl⟩
  have hP : va_P D vwCl (ws) H := by rw [hH]; exact hP
  have hS : va_S A s.heap H [] := by rw [hH]; exact hS
  rw [← hH]
  refine lv_iload_n hx hb d_Arrays_copyOf_317_0 rfl (lv_at hl 1 rfl) ?_
  refine lv_aload_n hx hb d_Arrays_copyOf_317_1 rfl (lv_at hl 0 rfl) ?_
  obtain ⟨qp1, ep2⟩ := List.getElem?_of_mem (show ((arr, .inl (dA 1, n, .inl f)) : Nat × va_E) ∈ ws from m1)
  refine va_alen (v := nI n) hx hb hK hP (qp1) 1 ep2 rfl rfl d_Arrays_copyOf_317_2 ?_
  refine lv_icmp_ne hx hb d_Arrays_copyOf_317_3 (tgt := 14) rfl (fun g3 => ?_) (fun g3 => ?_)
  rotate_left
  · have g3 := (nI_eq (a := k) (b := n) (by omega) (by omega)).mp g3; exfalso; omega
  have g3 := mt (nI_eq (a := k) (b := n) (by omega) (by omega)).mpr g3
  refine lv_iload_n hx hb d_Arrays_copyOf_317_14 rfl (lv_at hl 1 rfl) ?_
  refine nnA (atype := .int) (ty := .int) (N' := k) (a0 := (k, .inl (fun _ => 0))) hx hb hE rfl w184 hK hP hD hS hA 1 rfl (fun _ => rfl) (by omega) (show k * 4 ≤ 536870912 by omega) (show 0 + 1 ≤ 1 by omega) (show 0 + k ≤ k by omega) d_Arrays_copyOf_317_15 (fun q4 H hP hD hS => ?_)
  have hP : va_P D vwCl ([(q4, .inl (dA 1, k, .inl (fun _ => 0)))] ++ (ws)) H := hP
  have hD : va_D A ([(q4, .inl (dA 1, k, .inl (fun _ => 0)))] ++ (ws)) := hD
  refine lv_astore_n hx hb d_Arrays_copyOf_317_17 rfl hl (by decide) rfl (fun ls hl => ?_)
  have hl : lv_has ls 3 [(2, .ref q4), (0, .ref arr), (1, .int (nI k))] := hl
  refine lv_aload_n hx hb d_Arrays_copyOf_317_18 rfl (lv_at hl 1 rfl) ?_
  refine lv_iconst (v := 0) hx hb d_Arrays_copyOf_317_19 (by decide) ?_
  refine lv_aload_n hx hb d_Arrays_copyOf_317_20 rfl (lv_at hl 0 rfl) ?_
  refine lv_iconst (v := 0) hx hb d_Arrays_copyOf_317_21 (by decide) ?_
  refine lv_aload_n hx hb d_Arrays_copyOf_317_22 rfl (lv_at hl 1 rfl) ?_
  obtain ⟨qp5, ep6⟩ := List.getElem?_of_mem (show ((arr, .inl (dA 1, n, .inl f)) : Nat × va_E) ∈ [(q4, .inl (dA 1, k, .inl (fun _ => 0)))] ++ (ws) from (List.mem_append_right _ m1))
  refine va_alen (v := nI n) hx hb hK hP (qp5) 1 ep6 rfl rfl d_Arrays_copyOf_317_23 ?_
  refine lv_iload_n hx hb d_Arrays_copyOf_317_24 rfl (lv_at hl 2 rfl) ?_
  refine va_mmin hx hb (hml.trans hl.1.symm) hown (hE.t w1109 rfl) (hE.t w548 rfl) (hE.t w549 rfl) (hE.t w550 rfl) (Nat.le_of_ble_eq_true rfl) (Nat.le_of_ble_eq_true rfl) (show 0 + 1 ≤ 1 by omega) (show 0 + k ≤ k by omega) d_Arrays_copyOf_317_25 (tpi (y := nI (min n k)) (nI_min (a := n) (b := k) (by omega) (by omega)) ?_)
  obtain ⟨qp7, ep8⟩ := List.getElem?_of_mem (show ((arr, .inl (dA 1, n, .inl f)) : Nat × va_E) ∈ [(q4, .inl (dA 1, k, .inl (fun _ => 0)))] ++ (ws) from (List.mem_append_right _ m1))
  refine ncpyi (f := f) (g := (fun _ => 0)) (n0 := n) (n1 := k) hx hb (hml.trans hl.1.symm) hown (hE.t w1110 rfl) (hE.t w720 rfl) (hE.t w721 rfl) (hE.t w722 rfl) hK hP hD hS (qp7) (0) 1 ep8 rfl rfl rfl (0) (0) (min n k) (by omega) (by omega) (by omega) (by omega) (by omega) (fun _ _ => rfl) (Nat.le_of_ble_eq_true rfl) (Nat.le_of_ble_eq_true rfl) d_Arrays_copyOf_317_28 (fun H locs hP hD hS => ?_)
  have hP : va_P D vwCl ([(q4, .inl (dA 1, k, .inl (va_cpy f (fun _ => 0) 0 0 (min n k))))] ++ (ws)) H := hP
  have hD : va_D A ([(q4, .inl (dA 1, k, .inl (va_cpy f (fun _ => 0) 0 0 (min n k))))] ++ (ws)) := hD
  refine lv_aload_n hx hb d_Arrays_copyOf_317_31 rfl (lv_at hl 0 rfl) ?_
  exact rkR hx hb hr (Or.inr ⟨_, rfl⟩) hlk hS () trivial hP hD (show 0 + 1 ≤ 1 by omega) (show 0 + k ≤ k by omega) d_Arrays_copyOf_317_32
set_option maxHeartbeats 4000000 in
set_option maxRecDepth 100000 in
theorem v_EaddMatchQ_r (l : Launch) (D : va_G) (dA : Nat → ClassId) (sz : Nat) (e0 mi : Nat) (ws : va_W) (sp : Nat) (kd : Int32) (pl : Nat) (nu : Int64) (na : Nat) (nn : Nat) (ln : Nat) (lt : Nat) (mk : Nat) (kN : Nat) (fk : Nat → Int32) (g : LI) (gb : LI) (z : Int32) (wa : Nat) (wb : Nat) (L : List Int32) (M : List Int32) (hwa : isWo dA ws wa L) (hwb : isWo dA ws wb M) (hg : lqOk e0 g) (hgb : lqOk e0 gb) (hel : ∀ i : Nat, i < g.eN → ∀ y : Nat, g.el i = some y → ∃ vs : List Value, (y, .inr (10, vs)) ∈ ws) (hem : ∀ i : Nat, i < gb.eN → ∀ y : Nat, gb.el i = some y → ∃ vs : List Value, (y, .inr (10, vs)) ∈ ws) (hs : g.sz ≤ 16384) (hkN : kN ≤ 40000) (h5 : g.sz < kN) : Met l ⟨"SeriesVault$Step", "addMatch", "(ILSeriesVault$Word;LSeriesVault$Word;)V"⟩ [Cond.code ⟨"SeriesVault$Step", "addMatch", "(ILSeriesVault$Word;LSeriesVault$Word;)V"⟩ prog_10_method_4_code 5 none] { frames := 7, cells := 2, slots := gqS g + gqS gb, locals := 171 } (pCy D dA e0 mi [.ref sp, .int z, .ref wa, .ref wb] ([(sp, .inr (13, [.int kd, .int (nI pl), .long nu, .ref na, .int (nI nn), .ref ln, .ref lt, .ref mk]))] ++ ([(mk, .inl (dA 1, kN, .inl fk))] ++ (LqW dA ln g ++ (LqW dA lt gb ++ (ws))))) sz) (va_Qv (fun (u9 : LI × LI) => adQ g wa u9.1 ∧ adQ gb wb u9.2) (fun (u9 : LI × LI) t9 => bW D (va_A ([(sp, .inr (13, [.int kd, .int (nI pl), .long nu, .ref na, .int (nI nn), .ref ln, .ref lt, .ref mk]))] ++ ([(mk, .inl (dA 1, kN, .inl fk))] ++ (LqW dA ln g ++ (LqW dA lt gb ++ (ws))))) sz) ([(sp, .inr (13, [.int kd, .int (nI pl), .long nu, .ref na, .int (nI nn), .ref ln, .ref lt, .ref mk]))] ++ ([(mk, .inl (dA 1, kN, .inl (va_up fk g.sz z)))] ++ (LqW dA ln u9.1 ++ (LqW dA lt u9.2 ++ (ws))))) t9) (va_A ([(sp, .inr (13, [.int kd, .int (nI pl), .long nu, .ref na, .int (nI nn), .ref ln, .ref lt, .ref mk]))] ++ ([(mk, .inl (dA 1, kN, .inl fk))] ++ (LqW dA ln g ++ (LqW dA lt gb ++ (ws))))) sz)) 2 (gqS g + gqS gb) (va_A ([(sp, .inr (13, [.int kd, .int (nI pl), .long nu, .ref na, .int (nI nn), .ref ln, .ref lt, .ref mk]))] ++ ([(mk, .inl (dA 1, kN, .inl fk))] ++ (LqW dA ln g ++ (LqW dA lt gb ++ (ws))))) sz) := by
  refine mkY (y := ⟨"SeriesVault$Step", "addMatch", "(ILSeriesVault$Word;LSeriesVault$Word;)V"⟩) (cc := prog_10_method_4_code) (maxL := 5) (av := [.ref sp, .int z, .ref wa, .ref wb]) (ws := [(sp, .inr (13, [.int kd, .int (nI pl), .long nu, .ref na, .int (nI nn), .ref ln, .ref lt, .ref mk]))] ++ ([(mk, .inl (dA 1, kN, .inl fk))] ++ (LqW dA ln g ++ (LqW dA lt gb ++ (ws))))) (sz := sz) (Qc := fun A => va_Qv (fun (u9 : LI × LI) => adQ g wa u9.1 ∧ adQ gb wb u9.2) (fun (u9 : LI × LI) t9 => bW D A ([(sp, .inr (13, [.int kd, .int (nI pl), .long nu, .ref na, .int (nI nn), .ref ln, .ref lt, .ref mk]))] ++ ([(mk, .inl (dA 1, kN, .inl (va_up fk g.sz z)))] ++ (LqW dA ln u9.1 ++ (LqW dA lt u9.2 ++ (ws))))) t9) A) (by decide) (Nat.le_of_ble_eq_true rfl) ?_
  intro A p e s m below meth c ls hsz hZ hT hM hB
  obtain ⟨hx, hb, hr, hml, hown, hin, hlk, hE, hK, hP, hD, hS, hA, hN, hl⟩ := hB
  have hown : s.vm.findClass "SeriesVault$Step" = some m.cls := hown
  have hl : lv_has ls 5 [(0, .ref sp), (1, .int z), (2, .ref wa), (3, .ref wb)] := hl
  obtain ⟨H, hH⟩ : ∃ z, z = s.heap := ⟨_, rfl⟩
  have hP : va_P D vwCl ([(sp, .inr (13, [.int kd, .int (nI pl), .long nu, .ref na, .int (nI nn), .ref ln, .ref lt, .ref mk]))] ++ ([(mk, .inl (dA 1, kN, .inl fk))] ++ (LqW dA ln g ++ (LqW dA lt gb ++ (ws))))) H := by rw [hH]; exact hP
  have hS : va_S A s.heap H [] := by rw [hH]; exact hS
  rw [← hH]
  have wac := hwa
  obtain ⟨bwa, fwa, kwa, -⟩ := wac
  have wbc := hwb
  obtain ⟨bwb, fwb, kwb, -⟩ := wbc
  refine lv_aload_n hx hb d_E_addMatch_0 rfl (lv_at hl 0 rfl) ?_
  refine gF (v := .ref ln) hx hb hown hE hK hP 0 rfl rfl layE 5 (by decide) w1482 rfl d_E_addMatch_1 ?_
  have hP := pmP (show List.Perm (α := Nat × va_E) ([(sp, .inr (13, [.int kd, .int (nI pl), .long nu, .ref na, .int (nI nn), .ref ln, .ref lt, .ref mk]))] ++ ([(mk, .inl (dA 1, kN, .inl fk))] ++ (LqW dA ln g ++ (LqW dA lt gb ++ (ws))))) (LqW dA ln g ++ ([(sp, .inr (13, [.int kd, .int (nI pl), .long nu, .ref na, .int (nI nn), .ref ln, .ref lt, .ref mk]))] ++ ([(mk, .inl (dA 1, kN, .inl fk))] ++ (LqW dA lt gb ++ (ws))))) from (List.Perm.append_left ([(sp, .inr (13, [.int kd, .int (nI pl), .long nu, .ref na, .int (nI nn), .ref ln, .ref lt, .ref mk]))]) (List.perm_append_comm_assoc ([(mk, .inl (dA 1, kN, .inl fk))]) (LqW dA ln g) (LqW dA lt gb ++ (ws)))).trans (List.perm_append_comm_assoc ([(sp, .inr (13, [.int kd, .int (nI pl), .long nu, .ref na, .int (nI nn), .ref ln, .ref lt, .ref mk]))]) (LqW dA ln g) ([(mk, .inl (dA 1, kN, .inl fk))] ++ (LqW dA lt gb ++ (ws))))) hP
  have hD := pmD (show List.Perm (α := Nat × va_E) ([(sp, .inr (13, [.int kd, .int (nI pl), .long nu, .ref na, .int (nI nn), .ref ln, .ref lt, .ref mk]))] ++ ([(mk, .inl (dA 1, kN, .inl fk))] ++ (LqW dA ln g ++ (LqW dA lt gb ++ (ws))))) (LqW dA ln g ++ ([(sp, .inr (13, [.int kd, .int (nI pl), .long nu, .ref na, .int (nI nn), .ref ln, .ref lt, .ref mk]))] ++ ([(mk, .inl (dA 1, kN, .inl fk))] ++ (LqW dA lt gb ++ (ws))))) from (List.Perm.append_left ([(sp, .inr (13, [.int kd, .int (nI pl), .long nu, .ref na, .int (nI nn), .ref ln, .ref lt, .ref mk]))]) (List.perm_append_comm_assoc ([(mk, .inl (dA 1, kN, .inl fk))]) (LqW dA ln g) (LqW dA lt gb ++ (ws)))).trans (List.perm_append_comm_assoc ([(sp, .inr (13, [.int kd, .int (nI pl), .long nu, .ref na, .int (nI nn), .ref ln, .ref lt, .ref mk]))]) (LqW dA ln g) ([(mk, .inl (dA 1, kN, .inl fk))] ++ (LqW dA lt gb ++ (ws))))) hD
  refine jkI (wr := []) (rnV (As := []) (rest := []) hx hb hml hown hE hK (hN _ _ hS) hP hD (v_LsizeQ l D dA H.size ([(sp, .inr (13, [.int kd, .int (nI pl), .long nu, .ref na, .int (nI nn), .ref ln, .ref lt, .ref mk]))] ++ ([(mk, .inl (dA 1, kN, .inl fk))] ++ (LqW dA lt gb ++ (ws)))) ln g) (q0 := 0) rfl rfl w1484 w1483 w1485 w1486 w680 rfl rfl ⟨⟨by decide, by decide⟩, rfl⟩ ⟨(Nat.le_of_ble_eq_true rfl), (Nat.le_of_ble_eq_true rfl)⟩ rfl hl.1 rfl (Nat.le_of_ble_eq_true rfl) d_E_addMatch_4 ⟨(show 0 + 0 ≤ 2 by omega), (show 0 + 0 ≤ gqS g + gqS gb by omega)⟩) hP hD hS hA (fun r1 u2 H locs hp9 hP hD hS => ?_)
  have hP : va_P D vwCl (LqW dA ln g ++ ([(sp, .inr (13, [.int kd, .int (nI pl), .long nu, .ref na, .int (nI nn), .ref ln, .ref lt, .ref mk]))] ++ ([(mk, .inl (dA 1, kN, .inl fk))] ++ (LqW dA lt gb ++ (ws))))) H := hP
  have hD : va_D A (LqW dA ln g ++ ([(sp, .inr (13, [.int kd, .int (nI pl), .long nu, .ref na, .int (nI nn), .ref ln, .ref lt, .ref mk]))] ++ ([(mk, .inl (dA 1, kN, .inl fk))] ++ (LqW dA lt gb ++ (ws))))) := hD
  replace hp9 : nI g.sz = r1 := Eq.symm hp9
  subst hp9
  have hP := pmP (show List.Perm (α := Nat × va_E) (LqW dA ln g ++ ([(sp, .inr (13, [.int kd, .int (nI pl), .long nu, .ref na, .int (nI nn), .ref ln, .ref lt, .ref mk]))] ++ ([(mk, .inl (dA 1, kN, .inl fk))] ++ (LqW dA lt gb ++ (ws))))) ([(sp, .inr (13, [.int kd, .int (nI pl), .long nu, .ref na, .int (nI nn), .ref ln, .ref lt, .ref mk]))] ++ (LqW dA ln g ++ ([(mk, .inl (dA 1, kN, .inl fk))] ++ (LqW dA lt gb ++ (ws))))) from List.perm_append_comm_assoc (LqW dA ln g) ([(sp, .inr (13, [.int kd, .int (nI pl), .long nu, .ref na, .int (nI nn), .ref ln, .ref lt, .ref mk]))]) ([(mk, .inl (dA 1, kN, .inl fk))] ++ (LqW dA lt gb ++ (ws)))) hP
  have hD := pmD (show List.Perm (α := Nat × va_E) (LqW dA ln g ++ ([(sp, .inr (13, [.int kd, .int (nI pl), .long nu, .ref na, .int (nI nn), .ref ln, .ref lt, .ref mk]))] ++ ([(mk, .inl (dA 1, kN, .inl fk))] ++ (LqW dA lt gb ++ (ws))))) ([(sp, .inr (13, [.int kd, .int (nI pl), .long nu, .ref na, .int (nI nn), .ref ln, .ref lt, .ref mk]))] ++ (LqW dA ln g ++ ([(mk, .inl (dA 1, kN, .inl fk))] ++ (LqW dA lt gb ++ (ws))))) from List.perm_append_comm_assoc (LqW dA ln g) ([(sp, .inr (13, [.int kd, .int (nI pl), .long nu, .ref na, .int (nI nn), .ref ln, .ref lt, .ref mk]))]) ([(mk, .inl (dA 1, kN, .inl fk))] ++ (LqW dA lt gb ++ (ws)))) hD
  have hP := pmP (show List.Perm (α := Nat × va_E) ([(sp, .inr (13, [.int kd, .int (nI pl), .long nu, .ref na, .int (nI nn), .ref ln, .ref lt, .ref mk]))] ++ (LqW dA ln g ++ ([(mk, .inl (dA 1, kN, .inl fk))] ++ (LqW dA lt gb ++ (ws))))) ([(sp, .inr (13, [.int kd, .int (nI pl), .long nu, .ref na, .int (nI nn), .ref ln, .ref lt, .ref mk]))] ++ ([(mk, .inl (dA 1, kN, .inl fk))] ++ (LqW dA ln g ++ (LqW dA lt gb ++ (ws))))) from List.Perm.append_left ([(sp, .inr (13, [.int kd, .int (nI pl), .long nu, .ref na, .int (nI nn), .ref ln, .ref lt, .ref mk]))]) (List.perm_append_comm_assoc (LqW dA ln g) ([(mk, .inl (dA 1, kN, .inl fk))]) (LqW dA lt gb ++ (ws)))) hP
  have hD := pmD (show List.Perm (α := Nat × va_E) ([(sp, .inr (13, [.int kd, .int (nI pl), .long nu, .ref na, .int (nI nn), .ref ln, .ref lt, .ref mk]))] ++ (LqW dA ln g ++ ([(mk, .inl (dA 1, kN, .inl fk))] ++ (LqW dA lt gb ++ (ws))))) ([(sp, .inr (13, [.int kd, .int (nI pl), .long nu, .ref na, .int (nI nn), .ref ln, .ref lt, .ref mk]))] ++ ([(mk, .inl (dA 1, kN, .inl fk))] ++ (LqW dA ln g ++ (LqW dA lt gb ++ (ws))))) from List.Perm.append_left ([(sp, .inr (13, [.int kd, .int (nI pl), .long nu, .ref na, .int (nI nn), .ref ln, .ref lt, .ref mk]))]) (List.perm_append_comm_assoc (LqW dA ln g) ([(mk, .inl (dA 1, kN, .inl fk))]) (LqW dA lt gb ++ (ws)))) hD
  refine lv_istore hx hb d_E_addMatch_7 hl (by decide) rfl (fun ls hl => ?_)
  have hl : lv_has ls 5 [(4, .int (nI g.sz)), (0, .ref sp), (1, .int z), (2, .ref wa), (3, .ref wb)] := hl
  refine lv_iload hx hb d_E_addMatch_9 (lv_at hl 0 rfl) ?_
  refine lv_aload_n hx hb d_E_addMatch_11 rfl (lv_at hl 1 rfl) ?_
  refine gF (v := .ref mk) hx hb hown hE hK hP 0 rfl rfl layE 7 (by decide) w1487 rfl d_E_addMatch_12 ?_
  refine va_alen (v := nI kN) hx hb hK hP (1) 1 rfl rfl rfl d_E_addMatch_15 ?_
  refine lv_icmp_ne hx hb d_E_addMatch_16 (tgt := 36) rfl (fun g3 => ?_) (fun g3 => ?_)
  rotate_left
  · have g3 := (nI_eq (a := g.sz) (b := kN) (by omega) (by omega)).mp g3; exfalso; omega
  have g3 := mt (nI_eq (a := g.sz) (b := kN) (by omega) (by omega)).mpr g3
  refine lv_aload_n hx hb d_E_addMatch_36 rfl (lv_at hl 1 rfl) ?_
  refine gF (v := .ref mk) hx hb hown hE hK hP 0 rfl rfl layE 7 (by decide) w1487 rfl d_E_addMatch_37 ?_
  refine lv_iload hx hb d_E_addMatch_40 (lv_at hl 0 rfl) ?_
  refine lv_iload_n hx hb d_E_addMatch_42 rfl (lv_at hl 2 rfl) ?_
  refine nist (n := kN) hx hb hK hP hD hS (1) 1 rfl rfl (g.sz) (by omega) (by omega) d_E_addMatch_43 (fun H locs hP hD hS => ?_)
  have hP : va_P D vwCl ([(sp, .inr (13, [.int kd, .int (nI pl), .long nu, .ref na, .int (nI nn), .ref ln, .ref lt, .ref mk]))] ++ ([(mk, .inl (dA 1, kN, .inl (va_up fk g.sz z)))] ++ (LqW dA ln g ++ (LqW dA lt gb ++ (ws))))) H := hP
  have hD : va_D A ([(sp, .inr (13, [.int kd, .int (nI pl), .long nu, .ref na, .int (nI nn), .ref ln, .ref lt, .ref mk]))] ++ ([(mk, .inl (dA 1, kN, .inl (va_up fk g.sz z)))] ++ (LqW dA ln g ++ (LqW dA lt gb ++ (ws))))) := hD
  refine lv_aload_n hx hb d_E_addMatch_44 rfl (lv_at hl 1 rfl) ?_
  refine gF (v := .ref ln) hx hb hown hE hK hP 0 rfl rfl layE 5 (by decide) w1482 rfl d_E_addMatch_45 ?_
  refine lv_aload_n hx hb d_E_addMatch_48 rfl (lv_at hl 3 rfl) ?_
  have hP := pmP (show List.Perm (α := Nat × va_E) ([(sp, .inr (13, [.int kd, .int (nI pl), .long nu, .ref na, .int (nI nn), .ref ln, .ref lt, .ref mk]))] ++ ([(mk, .inl (dA 1, kN, .inl (va_up fk g.sz z)))] ++ (LqW dA ln g ++ (LqW dA lt gb ++ (ws))))) (LqW dA ln g ++ ([(sp, .inr (13, [.int kd, .int (nI pl), .long nu, .ref na, .int (nI nn), .ref ln, .ref lt, .ref mk]))] ++ ([(mk, .inl (dA 1, kN, .inl (va_up fk g.sz z)))] ++ (LqW dA lt gb ++ (ws))))) from (List.Perm.append_left ([(sp, .inr (13, [.int kd, .int (nI pl), .long nu, .ref na, .int (nI nn), .ref ln, .ref lt, .ref mk]))]) (List.perm_append_comm_assoc ([(mk, .inl (dA 1, kN, .inl (va_up fk g.sz z)))]) (LqW dA ln g) (LqW dA lt gb ++ (ws)))).trans (List.perm_append_comm_assoc ([(sp, .inr (13, [.int kd, .int (nI pl), .long nu, .ref na, .int (nI nn), .ref ln, .ref lt, .ref mk]))]) (LqW dA ln g) ([(mk, .inl (dA 1, kN, .inl (va_up fk g.sz z)))] ++ (LqW dA lt gb ++ (ws))))) hP
  have hD := pmD (show List.Perm (α := Nat × va_E) ([(sp, .inr (13, [.int kd, .int (nI pl), .long nu, .ref na, .int (nI nn), .ref ln, .ref lt, .ref mk]))] ++ ([(mk, .inl (dA 1, kN, .inl (va_up fk g.sz z)))] ++ (LqW dA ln g ++ (LqW dA lt gb ++ (ws))))) (LqW dA ln g ++ ([(sp, .inr (13, [.int kd, .int (nI pl), .long nu, .ref na, .int (nI nn), .ref ln, .ref lt, .ref mk]))] ++ ([(mk, .inl (dA 1, kN, .inl (va_up fk g.sz z)))] ++ (LqW dA lt gb ++ (ws))))) from (List.Perm.append_left ([(sp, .inr (13, [.int kd, .int (nI pl), .long nu, .ref na, .int (nI nn), .ref ln, .ref lt, .ref mk]))]) (List.perm_append_comm_assoc ([(mk, .inl (dA 1, kN, .inl (va_up fk g.sz z)))]) (LqW dA ln g) (LqW dA lt gb ++ (ws)))).trans (List.perm_append_comm_assoc ([(sp, .inr (13, [.int kd, .int (nI pl), .long nu, .ref na, .int (nI nn), .ref ln, .ref lt, .ref mk]))]) (LqW dA ln g) ([(mk, .inl (dA 1, kN, .inl (va_up fk g.sz z)))] ++ (LqW dA lt gb ++ (ws))))) hD
  refine jkI (wr := []) (rnVy (As := [.ref wa]) (rest := []) hx hb hml hown hE hK hZ hT hM hS (hN _ _ hS) hP hD (v_LaddQ_W l D dA H.size e0 mi ([(sp, .inr (13, [.int kd, .int (nI pl), .long nu, .ref na, .int (nI nn), .ref ln, .ref lt, .ref mk]))] ++ ([(mk, .inl (dA 1, kN, .inl (va_up fk g.sz z)))] ++ (LqW dA lt gb ++ (ws)))) ln g wa ([.ref bwa]) hg (fun i hi y hy => by obtain ⟨vs, hv⟩ := hel i hi y hy; exact ⟨vs, (fun _ hm => (List.mem_append_right _ (List.mem_append_right _ (List.mem_append_right _ hm)))) _ hv⟩) ((fun _ hm => (List.mem_append_right _ (List.mem_append_right _ (List.mem_append_right _ hm)))) _ kwa)) (q0 := 0) rfl rfl w812 w1536 w813 w814 w680 rfl rfl ⟨⟨by decide, by decide⟩, rfl⟩ ⟨(Nat.le_of_ble_eq_true rfl), (Nat.le_of_ble_eq_true rfl)⟩ rfl hl.1 rfl (Nat.le_of_ble_eq_true rfl) d_E_addMatch_49 ⟨(show 0 + 0 + 1 ≤ 2 by omega), (show 0 + 0 + (gqS g) ≤ gqS g + gqS gb by omega)⟩) hP hD hS hA (fun r4 u5 H locs hp9 hP hD hS => ?_)
  obtain ⟨gq, h9u⟩ : ∃ z9, z9 = u5 := ⟨_, rfl⟩
  subst h9u
  have hP : va_P D vwCl (LqW dA ln gq ++ ([(sp, .inr (13, [.int kd, .int (nI pl), .long nu, .ref na, .int (nI nn), .ref ln, .ref lt, .ref mk]))] ++ ([(mk, .inl (dA 1, kN, .inl (va_up fk g.sz z)))] ++ (LqW dA lt gb ++ (ws))))) H := hP
  have hD : va_D A (LqW dA ln gq ++ ([(sp, .inr (13, [.int kd, .int (nI pl), .long nu, .ref na, .int (nI nn), .ref ln, .ref lt, .ref mk]))] ++ ([(mk, .inl (dA 1, kN, .inl (va_up fk g.sz z)))] ++ (LqW dA lt gb ++ (ws))))) := hD
  obtain ⟨hp9, f_f_6⟩ := hp9
  replace hp9 : 1 = r4 := Eq.symm hp9
  subst hp9
  refine lv_pop hx hb d_E_addMatch_52 rfl ?_
  refine lv_aload_n hx hb d_E_addMatch_53 rfl (lv_at hl 1 rfl) ?_
  have hP := pmP (show List.Perm (α := Nat × va_E) (LqW dA ln gq ++ ([(sp, .inr (13, [.int kd, .int (nI pl), .long nu, .ref na, .int (nI nn), .ref ln, .ref lt, .ref mk]))] ++ ([(mk, .inl (dA 1, kN, .inl (va_up fk g.sz z)))] ++ (LqW dA lt gb ++ (ws))))) ([(sp, .inr (13, [.int kd, .int (nI pl), .long nu, .ref na, .int (nI nn), .ref ln, .ref lt, .ref mk]))] ++ (LqW dA ln gq ++ ([(mk, .inl (dA 1, kN, .inl (va_up fk g.sz z)))] ++ (LqW dA lt gb ++ (ws))))) from List.perm_append_comm_assoc (LqW dA ln gq) ([(sp, .inr (13, [.int kd, .int (nI pl), .long nu, .ref na, .int (nI nn), .ref ln, .ref lt, .ref mk]))]) ([(mk, .inl (dA 1, kN, .inl (va_up fk g.sz z)))] ++ (LqW dA lt gb ++ (ws)))) hP
  have hD := pmD (show List.Perm (α := Nat × va_E) (LqW dA ln gq ++ ([(sp, .inr (13, [.int kd, .int (nI pl), .long nu, .ref na, .int (nI nn), .ref ln, .ref lt, .ref mk]))] ++ ([(mk, .inl (dA 1, kN, .inl (va_up fk g.sz z)))] ++ (LqW dA lt gb ++ (ws))))) ([(sp, .inr (13, [.int kd, .int (nI pl), .long nu, .ref na, .int (nI nn), .ref ln, .ref lt, .ref mk]))] ++ (LqW dA ln gq ++ ([(mk, .inl (dA 1, kN, .inl (va_up fk g.sz z)))] ++ (LqW dA lt gb ++ (ws))))) from List.perm_append_comm_assoc (LqW dA ln gq) ([(sp, .inr (13, [.int kd, .int (nI pl), .long nu, .ref na, .int (nI nn), .ref ln, .ref lt, .ref mk]))]) ([(mk, .inl (dA 1, kN, .inl (va_up fk g.sz z)))] ++ (LqW dA lt gb ++ (ws)))) hD
  have hP := pmP (show List.Perm (α := Nat × va_E) ([(sp, .inr (13, [.int kd, .int (nI pl), .long nu, .ref na, .int (nI nn), .ref ln, .ref lt, .ref mk]))] ++ (LqW dA ln gq ++ ([(mk, .inl (dA 1, kN, .inl (va_up fk g.sz z)))] ++ (LqW dA lt gb ++ (ws))))) ([(sp, .inr (13, [.int kd, .int (nI pl), .long nu, .ref na, .int (nI nn), .ref ln, .ref lt, .ref mk]))] ++ ([(mk, .inl (dA 1, kN, .inl (va_up fk g.sz z)))] ++ (LqW dA ln gq ++ (LqW dA lt gb ++ (ws))))) from List.Perm.append_left ([(sp, .inr (13, [.int kd, .int (nI pl), .long nu, .ref na, .int (nI nn), .ref ln, .ref lt, .ref mk]))]) (List.perm_append_comm_assoc (LqW dA ln gq) ([(mk, .inl (dA 1, kN, .inl (va_up fk g.sz z)))]) (LqW dA lt gb ++ (ws)))) hP
  have hD := pmD (show List.Perm (α := Nat × va_E) ([(sp, .inr (13, [.int kd, .int (nI pl), .long nu, .ref na, .int (nI nn), .ref ln, .ref lt, .ref mk]))] ++ (LqW dA ln gq ++ ([(mk, .inl (dA 1, kN, .inl (va_up fk g.sz z)))] ++ (LqW dA lt gb ++ (ws))))) ([(sp, .inr (13, [.int kd, .int (nI pl), .long nu, .ref na, .int (nI nn), .ref ln, .ref lt, .ref mk]))] ++ ([(mk, .inl (dA 1, kN, .inl (va_up fk g.sz z)))] ++ (LqW dA ln gq ++ (LqW dA lt gb ++ (ws))))) from List.Perm.append_left ([(sp, .inr (13, [.int kd, .int (nI pl), .long nu, .ref na, .int (nI nn), .ref ln, .ref lt, .ref mk]))]) (List.perm_append_comm_assoc (LqW dA ln gq) ([(mk, .inl (dA 1, kN, .inl (va_up fk g.sz z)))]) (LqW dA lt gb ++ (ws)))) hD
  refine gF (v := .ref lt) hx hb hown hE hK hP 0 rfl rfl layE 6 (by decide) w1494 rfl d_E_addMatch_54 ?_
  refine lv_aload_n hx hb d_E_addMatch_57 rfl (lv_at hl 4 rfl) ?_
  have hP := pmP (show List.Perm (α := Nat × va_E) ([(sp, .inr (13, [.int kd, .int (nI pl), .long nu, .ref na, .int (nI nn), .ref ln, .ref lt, .ref mk]))] ++ ([(mk, .inl (dA 1, kN, .inl (va_up fk g.sz z)))] ++ (LqW dA ln gq ++ (LqW dA lt gb ++ (ws))))) (LqW dA lt gb ++ ([(sp, .inr (13, [.int kd, .int (nI pl), .long nu, .ref na, .int (nI nn), .ref ln, .ref lt, .ref mk]))] ++ ([(mk, .inl (dA 1, kN, .inl (va_up fk g.sz z)))] ++ (LqW dA ln gq ++ (ws))))) from (List.Perm.append_left ([(sp, .inr (13, [.int kd, .int (nI pl), .long nu, .ref na, .int (nI nn), .ref ln, .ref lt, .ref mk]))]) ((List.Perm.append_left ([(mk, .inl (dA 1, kN, .inl (va_up fk g.sz z)))]) (List.perm_append_comm_assoc (LqW dA ln gq) (LqW dA lt gb) (ws))).trans (List.perm_append_comm_assoc ([(mk, .inl (dA 1, kN, .inl (va_up fk g.sz z)))]) (LqW dA lt gb) (LqW dA ln gq ++ (ws))))).trans (List.perm_append_comm_assoc ([(sp, .inr (13, [.int kd, .int (nI pl), .long nu, .ref na, .int (nI nn), .ref ln, .ref lt, .ref mk]))]) (LqW dA lt gb) ([(mk, .inl (dA 1, kN, .inl (va_up fk g.sz z)))] ++ (LqW dA ln gq ++ (ws))))) hP
  have hD := pmD (show List.Perm (α := Nat × va_E) ([(sp, .inr (13, [.int kd, .int (nI pl), .long nu, .ref na, .int (nI nn), .ref ln, .ref lt, .ref mk]))] ++ ([(mk, .inl (dA 1, kN, .inl (va_up fk g.sz z)))] ++ (LqW dA ln gq ++ (LqW dA lt gb ++ (ws))))) (LqW dA lt gb ++ ([(sp, .inr (13, [.int kd, .int (nI pl), .long nu, .ref na, .int (nI nn), .ref ln, .ref lt, .ref mk]))] ++ ([(mk, .inl (dA 1, kN, .inl (va_up fk g.sz z)))] ++ (LqW dA ln gq ++ (ws))))) from (List.Perm.append_left ([(sp, .inr (13, [.int kd, .int (nI pl), .long nu, .ref na, .int (nI nn), .ref ln, .ref lt, .ref mk]))]) ((List.Perm.append_left ([(mk, .inl (dA 1, kN, .inl (va_up fk g.sz z)))]) (List.perm_append_comm_assoc (LqW dA ln gq) (LqW dA lt gb) (ws))).trans (List.perm_append_comm_assoc ([(mk, .inl (dA 1, kN, .inl (va_up fk g.sz z)))]) (LqW dA lt gb) (LqW dA ln gq ++ (ws))))).trans (List.perm_append_comm_assoc ([(sp, .inr (13, [.int kd, .int (nI pl), .long nu, .ref na, .int (nI nn), .ref ln, .ref lt, .ref mk]))]) (LqW dA lt gb) ([(mk, .inl (dA 1, kN, .inl (va_up fk g.sz z)))] ++ (LqW dA ln gq ++ (ws))))) hD
  refine jkI (wr := []) (rnVy (As := [.ref wb]) (rest := []) hx hb hml hown hE hK hZ hT hM hS (hN _ _ hS) hP hD (v_LaddQ_W l D dA H.size e0 mi ([(sp, .inr (13, [.int kd, .int (nI pl), .long nu, .ref na, .int (nI nn), .ref ln, .ref lt, .ref mk]))] ++ ([(mk, .inl (dA 1, kN, .inl (va_up fk g.sz z)))] ++ (LqW dA ln gq ++ (ws)))) lt gb wb ([.ref bwb]) hgb (fun i hi y hy => by obtain ⟨vs, hv⟩ := hem i hi y hy; exact ⟨vs, (fun _ hm => (List.mem_append_right _ (List.mem_append_right _ (List.mem_append_right _ hm)))) _ hv⟩) ((fun _ hm => (List.mem_append_right _ (List.mem_append_right _ (List.mem_append_right _ hm)))) _ kwb)) (q0 := 0) rfl rfl w812 w1536 w813 w814 w680 rfl rfl ⟨⟨by decide, by decide⟩, rfl⟩ ⟨(Nat.le_of_ble_eq_true rfl), (Nat.le_of_ble_eq_true rfl)⟩ rfl hl.1 rfl (Nat.le_of_ble_eq_true rfl) d_E_addMatch_58 ⟨(show 0 + 0 + 1 + 1 ≤ 2 by omega), (show 0 + 0 + (gqS g) + (gqS gb) ≤ gqS g + gqS gb by omega)⟩) hP hD hS hA (fun r7 u8 H locs hp9 hP hD hS => ?_)
  obtain ⟨gr, h9u⟩ : ∃ z9, z9 = u8 := ⟨_, rfl⟩
  subst h9u
  have hP : va_P D vwCl (LqW dA lt gr ++ ([(sp, .inr (13, [.int kd, .int (nI pl), .long nu, .ref na, .int (nI nn), .ref ln, .ref lt, .ref mk]))] ++ ([(mk, .inl (dA 1, kN, .inl (va_up fk g.sz z)))] ++ (LqW dA ln gq ++ (ws))))) H := hP
  have hD : va_D A (LqW dA lt gr ++ ([(sp, .inr (13, [.int kd, .int (nI pl), .long nu, .ref na, .int (nI nn), .ref ln, .ref lt, .ref mk]))] ++ ([(mk, .inl (dA 1, kN, .inl (va_up fk g.sz z)))] ++ (LqW dA ln gq ++ (ws))))) := hD
  obtain ⟨hp9, f_f_9⟩ := hp9
  replace hp9 : 1 = r7 := Eq.symm hp9
  subst hp9
  refine lv_pop hx hb d_E_addMatch_61 rfl ?_
  have hP := pmP (show List.Perm (α := Nat × va_E) (LqW dA lt gr ++ ([(sp, .inr (13, [.int kd, .int (nI pl), .long nu, .ref na, .int (nI nn), .ref ln, .ref lt, .ref mk]))] ++ ([(mk, .inl (dA 1, kN, .inl (va_up fk g.sz z)))] ++ (LqW dA ln gq ++ (ws))))) ([(sp, .inr (13, [.int kd, .int (nI pl), .long nu, .ref na, .int (nI nn), .ref ln, .ref lt, .ref mk]))] ++ (LqW dA lt gr ++ ([(mk, .inl (dA 1, kN, .inl (va_up fk g.sz z)))] ++ (LqW dA ln gq ++ (ws))))) from List.perm_append_comm_assoc (LqW dA lt gr) ([(sp, .inr (13, [.int kd, .int (nI pl), .long nu, .ref na, .int (nI nn), .ref ln, .ref lt, .ref mk]))]) ([(mk, .inl (dA 1, kN, .inl (va_up fk g.sz z)))] ++ (LqW dA ln gq ++ (ws)))) hP
  have hD := pmD (show List.Perm (α := Nat × va_E) (LqW dA lt gr ++ ([(sp, .inr (13, [.int kd, .int (nI pl), .long nu, .ref na, .int (nI nn), .ref ln, .ref lt, .ref mk]))] ++ ([(mk, .inl (dA 1, kN, .inl (va_up fk g.sz z)))] ++ (LqW dA ln gq ++ (ws))))) ([(sp, .inr (13, [.int kd, .int (nI pl), .long nu, .ref na, .int (nI nn), .ref ln, .ref lt, .ref mk]))] ++ (LqW dA lt gr ++ ([(mk, .inl (dA 1, kN, .inl (va_up fk g.sz z)))] ++ (LqW dA ln gq ++ (ws))))) from List.perm_append_comm_assoc (LqW dA lt gr) ([(sp, .inr (13, [.int kd, .int (nI pl), .long nu, .ref na, .int (nI nn), .ref ln, .ref lt, .ref mk]))]) ([(mk, .inl (dA 1, kN, .inl (va_up fk g.sz z)))] ++ (LqW dA ln gq ++ (ws)))) hD
  have hP := pmP (show List.Perm (α := Nat × va_E) ([(sp, .inr (13, [.int kd, .int (nI pl), .long nu, .ref na, .int (nI nn), .ref ln, .ref lt, .ref mk]))] ++ (LqW dA lt gr ++ ([(mk, .inl (dA 1, kN, .inl (va_up fk g.sz z)))] ++ (LqW dA ln gq ++ (ws))))) ([(sp, .inr (13, [.int kd, .int (nI pl), .long nu, .ref na, .int (nI nn), .ref ln, .ref lt, .ref mk]))] ++ ([(mk, .inl (dA 1, kN, .inl (va_up fk g.sz z)))] ++ (LqW dA lt gr ++ (LqW dA ln gq ++ (ws))))) from List.Perm.append_left ([(sp, .inr (13, [.int kd, .int (nI pl), .long nu, .ref na, .int (nI nn), .ref ln, .ref lt, .ref mk]))]) (List.perm_append_comm_assoc (LqW dA lt gr) ([(mk, .inl (dA 1, kN, .inl (va_up fk g.sz z)))]) (LqW dA ln gq ++ (ws)))) hP
  have hD := pmD (show List.Perm (α := Nat × va_E) ([(sp, .inr (13, [.int kd, .int (nI pl), .long nu, .ref na, .int (nI nn), .ref ln, .ref lt, .ref mk]))] ++ (LqW dA lt gr ++ ([(mk, .inl (dA 1, kN, .inl (va_up fk g.sz z)))] ++ (LqW dA ln gq ++ (ws))))) ([(sp, .inr (13, [.int kd, .int (nI pl), .long nu, .ref na, .int (nI nn), .ref ln, .ref lt, .ref mk]))] ++ ([(mk, .inl (dA 1, kN, .inl (va_up fk g.sz z)))] ++ (LqW dA lt gr ++ (LqW dA ln gq ++ (ws))))) from List.Perm.append_left ([(sp, .inr (13, [.int kd, .int (nI pl), .long nu, .ref na, .int (nI nn), .ref ln, .ref lt, .ref mk]))]) (List.perm_append_comm_assoc (LqW dA lt gr) ([(mk, .inl (dA 1, kN, .inl (va_up fk g.sz z)))]) (LqW dA ln gq ++ (ws)))) hD
  have hP := pmP (show List.Perm (α := Nat × va_E) ([(sp, .inr (13, [.int kd, .int (nI pl), .long nu, .ref na, .int (nI nn), .ref ln, .ref lt, .ref mk]))] ++ ([(mk, .inl (dA 1, kN, .inl (va_up fk g.sz z)))] ++ (LqW dA lt gr ++ (LqW dA ln gq ++ (ws))))) ([(sp, .inr (13, [.int kd, .int (nI pl), .long nu, .ref na, .int (nI nn), .ref ln, .ref lt, .ref mk]))] ++ ([(mk, .inl (dA 1, kN, .inl (va_up fk g.sz z)))] ++ (LqW dA ln gq ++ (LqW dA lt gr ++ (ws))))) from List.Perm.append_left ([(sp, .inr (13, [.int kd, .int (nI pl), .long nu, .ref na, .int (nI nn), .ref ln, .ref lt, .ref mk]))]) (List.Perm.append_left ([(mk, .inl (dA 1, kN, .inl (va_up fk g.sz z)))]) (List.perm_append_comm_assoc (LqW dA lt gr) (LqW dA ln gq) (ws)))) hP
  have hD := pmD (show List.Perm (α := Nat × va_E) ([(sp, .inr (13, [.int kd, .int (nI pl), .long nu, .ref na, .int (nI nn), .ref ln, .ref lt, .ref mk]))] ++ ([(mk, .inl (dA 1, kN, .inl (va_up fk g.sz z)))] ++ (LqW dA lt gr ++ (LqW dA ln gq ++ (ws))))) ([(sp, .inr (13, [.int kd, .int (nI pl), .long nu, .ref na, .int (nI nn), .ref ln, .ref lt, .ref mk]))] ++ ([(mk, .inl (dA 1, kN, .inl (va_up fk g.sz z)))] ++ (LqW dA ln gq ++ (LqW dA lt gr ++ (ws))))) from List.Perm.append_left ([(sp, .inr (13, [.int kd, .int (nI pl), .long nu, .ref na, .int (nI nn), .ref ln, .ref lt, .ref mk]))]) (List.Perm.append_left ([(mk, .inl (dA 1, kN, .inl (va_up fk g.sz z)))]) (List.perm_append_comm_assoc (LqW dA lt gr) (LqW dA ln gq) (ws)))) hD
  exact rfV hx hb hr hlk hS (⟨gq, gr⟩) ⟨f_f_6, f_f_9⟩ hP hD (show 0 + 0 + 1 + 1 ≤ 2 by omega) (show 0 + 0 + (gqS g) + (gqS gb) ≤ gqS g + gqS gb by omega) d_E_addMatch_62
theorem d_E_addMatch_19 : decode prog_10_method_4_code 19 = .ok (.aload_n 0, 1) := by decide +kernel
theorem d_E_addMatch_20 : decode prog_10_method_4_code 20 = .ok (.aload_n 0, 1) := by decide +kernel
theorem d_E_addMatch_21 : decode prog_10_method_4_code 21 = .ok (.getfield 40, 3) := by decide +kernel
theorem d_E_addMatch_24 : decode prog_10_method_4_code 24 = .ok (.iconst 2, 1) := by decide +kernel
theorem d_E_addMatch_25 : decode prog_10_method_4_code 25 = .ok (.iload 4, 2) := by decide +kernel
theorem d_E_addMatch_27 : decode prog_10_method_4_code 27 = .ok (.imul, 1) := by decide +kernel
theorem d_E_addMatch_28 : decode prog_10_method_4_code 28 = .ok (.iconst 2, 1) := by decide +kernel
theorem d_E_addMatch_29 : decode prog_10_method_4_code 29 = .ok (.iadd, 1) := by decide +kernel
theorem d_E_addMatch_30 : decode prog_10_method_4_code 30 = .ok (.invokestatic 55, 3) := by decide +kernel
theorem d_E_addMatch_33 : decode prog_10_method_4_code 33 = .ok (.putfield 40, 3) := by decide +kernel
theorem w1637 : Cond.methodLink "SeriesVault$Step" 55 ⟨"java/util/Arrays", "copyOf", "([II)[I"⟩ ∈ aW := aw_of (tb_7 (List.mem_of_getElem? (i := 121) rfl)) rfl
set_option maxHeartbeats 4000000 in
set_option maxRecDepth 100000 in
theorem v_EaddMatchQ_k (l : Launch) (D : va_G) (dA : Nat → ClassId) (sz : Nat) (e0 mi : Nat) (ws : va_W) (sp : Nat) (kd : Int32) (pl : Nat) (nu : Int64) (na : Nat) (nn : Nat) (ln : Nat) (lt : Nat) (mk : Nat) (kN : Nat) (fk : Nat → Int32) (g : LI) (gb : LI) (z : Int32) (wa : Nat) (wb : Nat) (L : List Int32) (M : List Int32) (hwa : isWo dA ws wa L) (hwb : isWo dA ws wb M) (hg : lqOk e0 g) (hgb : lqOk e0 gb) (hel : ∀ i : Nat, i < g.eN → ∀ y : Nat, g.el i = some y → ∃ vs : List Value, (y, .inr (10, vs)) ∈ ws) (hem : ∀ i : Nat, i < gb.eN → ∀ y : Nat, gb.el i = some y → ∃ vs : List Value, (y, .inr (10, vs)) ∈ ws) (hs : g.sz ≤ 16384) (hkN : kN ≤ 40000) (h5 : g.sz = kN) : Met l ⟨"SeriesVault$Step", "addMatch", "(ILSeriesVault$Word;LSeriesVault$Word;)V"⟩ [Cond.code ⟨"SeriesVault$Step", "addMatch", "(ILSeriesVault$Word;LSeriesVault$Word;)V"⟩ prog_10_method_4_code 5 none] { frames := 7, cells := 3, slots := 2 * g.sz + 2 + gqS g + gqS gb, locals := 171 } (pCy D dA e0 mi [.ref sp, .int z, .ref wa, .ref wb] ([(sp, .inr (13, [.int kd, .int (nI pl), .long nu, .ref na, .int (nI nn), .ref ln, .ref lt, .ref mk]))] ++ ([(mk, .inl (dA 1, kN, .inl fk))] ++ (LqW dA ln g ++ (LqW dA lt gb ++ (ws))))) sz) (va_Qv (fun (u9 : LI × LI × Nat) => adQ g wa u9.1 ∧ adQ gb wb u9.2.1) (fun (u9 : LI × LI × Nat) t9 => bW D (va_A ([(sp, .inr (13, [.int kd, .int (nI pl), .long nu, .ref na, .int (nI nn), .ref ln, .ref lt, .ref mk]))] ++ ([(mk, .inl (dA 1, kN, .inl fk))] ++ (LqW dA ln g ++ (LqW dA lt gb ++ (ws))))) sz) ([(u9.2.2, .inl (dA 1, 2 * g.sz + 2, .inl (va_up (va_cpy fk (fun _ => 0) 0 0 (min kN (2 * g.sz + 2))) g.sz z)))] ++ ([(sp, .inr (13, [.int kd, .int (nI pl), .long nu, .ref na, .int (nI nn), .ref ln, .ref lt, .ref u9.2.2]))] ++ (LqW dA ln u9.1 ++ (LqW dA lt u9.2.1 ++ (ws))))) t9) (va_A ([(sp, .inr (13, [.int kd, .int (nI pl), .long nu, .ref na, .int (nI nn), .ref ln, .ref lt, .ref mk]))] ++ ([(mk, .inl (dA 1, kN, .inl fk))] ++ (LqW dA ln g ++ (LqW dA lt gb ++ (ws))))) sz)) 3 (2 * g.sz + 2 + gqS g + gqS gb) (va_A ([(sp, .inr (13, [.int kd, .int (nI pl), .long nu, .ref na, .int (nI nn), .ref ln, .ref lt, .ref mk]))] ++ ([(mk, .inl (dA 1, kN, .inl fk))] ++ (LqW dA ln g ++ (LqW dA lt gb ++ (ws))))) sz) := by
  refine mkY (y := ⟨"SeriesVault$Step", "addMatch", "(ILSeriesVault$Word;LSeriesVault$Word;)V"⟩) (cc := prog_10_method_4_code) (maxL := 5) (av := [.ref sp, .int z, .ref wa, .ref wb]) (ws := [(sp, .inr (13, [.int kd, .int (nI pl), .long nu, .ref na, .int (nI nn), .ref ln, .ref lt, .ref mk]))] ++ ([(mk, .inl (dA 1, kN, .inl fk))] ++ (LqW dA ln g ++ (LqW dA lt gb ++ (ws))))) (sz := sz) (Qc := fun A => va_Qv (fun (u9 : LI × LI × Nat) => adQ g wa u9.1 ∧ adQ gb wb u9.2.1) (fun (u9 : LI × LI × Nat) t9 => bW D A ([(u9.2.2, .inl (dA 1, 2 * g.sz + 2, .inl (va_up (va_cpy fk (fun _ => 0) 0 0 (min kN (2 * g.sz + 2))) g.sz z)))] ++ ([(sp, .inr (13, [.int kd, .int (nI pl), .long nu, .ref na, .int (nI nn), .ref ln, .ref lt, .ref u9.2.2]))] ++ (LqW dA ln u9.1 ++ (LqW dA lt u9.2.1 ++ (ws))))) t9) A) (by decide) (Nat.le_of_ble_eq_true rfl) ?_
  intro A p e s m below meth c ls hsz hZ hT hM hB
  obtain ⟨hx, hb, hr, hml, hown, hin, hlk, hE, hK, hP, hD, hS, hA, hN, hl⟩ := hB
  have hown : s.vm.findClass "SeriesVault$Step" = some m.cls := hown
  have hl : lv_has ls 5 [(0, .ref sp), (1, .int z), (2, .ref wa), (3, .ref wb)] := hl
  obtain ⟨H, hH⟩ : ∃ z, z = s.heap := ⟨_, rfl⟩
  have hP : va_P D vwCl ([(sp, .inr (13, [.int kd, .int (nI pl), .long nu, .ref na, .int (nI nn), .ref ln, .ref lt, .ref mk]))] ++ ([(mk, .inl (dA 1, kN, .inl fk))] ++ (LqW dA ln g ++ (LqW dA lt gb ++ (ws))))) H := by rw [hH]; exact hP
  have hS : va_S A s.heap H [] := by rw [hH]; exact hS
  rw [← hH]
  have wac := hwa
  obtain ⟨bwa, fwa, kwa, -⟩ := wac
  have wbc := hwb
  obtain ⟨bwb, fwb, kwb, -⟩ := wbc
  refine lv_aload_n hx hb d_E_addMatch_0 rfl (lv_at hl 0 rfl) ?_
  refine gF (v := .ref ln) hx hb hown hE hK hP 0 rfl rfl layE 5 (by decide) w1482 rfl d_E_addMatch_1 ?_
  have hP := pmP (show List.Perm (α := Nat × va_E) ([(sp, .inr (13, [.int kd, .int (nI pl), .long nu, .ref na, .int (nI nn), .ref ln, .ref lt, .ref mk]))] ++ ([(mk, .inl (dA 1, kN, .inl fk))] ++ (LqW dA ln g ++ (LqW dA lt gb ++ (ws))))) (LqW dA ln g ++ ([(sp, .inr (13, [.int kd, .int (nI pl), .long nu, .ref na, .int (nI nn), .ref ln, .ref lt, .ref mk]))] ++ ([(mk, .inl (dA 1, kN, .inl fk))] ++ (LqW dA lt gb ++ (ws))))) from (List.Perm.append_left ([(sp, .inr (13, [.int kd, .int (nI pl), .long nu, .ref na, .int (nI nn), .ref ln, .ref lt, .ref mk]))]) (List.perm_append_comm_assoc ([(mk, .inl (dA 1, kN, .inl fk))]) (LqW dA ln g) (LqW dA lt gb ++ (ws)))).trans (List.perm_append_comm_assoc ([(sp, .inr (13, [.int kd, .int (nI pl), .long nu, .ref na, .int (nI nn), .ref ln, .ref lt, .ref mk]))]) (LqW dA ln g) ([(mk, .inl (dA 1, kN, .inl fk))] ++ (LqW dA lt gb ++ (ws))))) hP
  have hD := pmD (show List.Perm (α := Nat × va_E) ([(sp, .inr (13, [.int kd, .int (nI pl), .long nu, .ref na, .int (nI nn), .ref ln, .ref lt, .ref mk]))] ++ ([(mk, .inl (dA 1, kN, .inl fk))] ++ (LqW dA ln g ++ (LqW dA lt gb ++ (ws))))) (LqW dA ln g ++ ([(sp, .inr (13, [.int kd, .int (nI pl), .long nu, .ref na, .int (nI nn), .ref ln, .ref lt, .ref mk]))] ++ ([(mk, .inl (dA 1, kN, .inl fk))] ++ (LqW dA lt gb ++ (ws))))) from (List.Perm.append_left ([(sp, .inr (13, [.int kd, .int (nI pl), .long nu, .ref na, .int (nI nn), .ref ln, .ref lt, .ref mk]))]) (List.perm_append_comm_assoc ([(mk, .inl (dA 1, kN, .inl fk))]) (LqW dA ln g) (LqW dA lt gb ++ (ws)))).trans (List.perm_append_comm_assoc ([(sp, .inr (13, [.int kd, .int (nI pl), .long nu, .ref na, .int (nI nn), .ref ln, .ref lt, .ref mk]))]) (LqW dA ln g) ([(mk, .inl (dA 1, kN, .inl fk))] ++ (LqW dA lt gb ++ (ws))))) hD
  refine jkI (wr := []) (rnV (As := []) (rest := []) hx hb hml hown hE hK (hN _ _ hS) hP hD (v_LsizeQ l D dA H.size ([(sp, .inr (13, [.int kd, .int (nI pl), .long nu, .ref na, .int (nI nn), .ref ln, .ref lt, .ref mk]))] ++ ([(mk, .inl (dA 1, kN, .inl fk))] ++ (LqW dA lt gb ++ (ws)))) ln g) (q0 := 0) rfl rfl w1484 w1483 w1485 w1486 w680 rfl rfl ⟨⟨by decide, by decide⟩, rfl⟩ ⟨(Nat.le_of_ble_eq_true rfl), (Nat.le_of_ble_eq_true rfl)⟩ rfl hl.1 rfl (Nat.le_of_ble_eq_true rfl) d_E_addMatch_4 ⟨(show 0 + 0 ≤ 3 by omega), (show 0 + 0 ≤ 2 * g.sz + 2 + gqS g + gqS gb by omega)⟩) hP hD hS hA (fun r1 u2 H locs hp9 hP hD hS => ?_)
  have hP : va_P D vwCl (LqW dA ln g ++ ([(sp, .inr (13, [.int kd, .int (nI pl), .long nu, .ref na, .int (nI nn), .ref ln, .ref lt, .ref mk]))] ++ ([(mk, .inl (dA 1, kN, .inl fk))] ++ (LqW dA lt gb ++ (ws))))) H := hP
  have hD : va_D A (LqW dA ln g ++ ([(sp, .inr (13, [.int kd, .int (nI pl), .long nu, .ref na, .int (nI nn), .ref ln, .ref lt, .ref mk]))] ++ ([(mk, .inl (dA 1, kN, .inl fk))] ++ (LqW dA lt gb ++ (ws))))) := hD
  replace hp9 : nI g.sz = r1 := Eq.symm hp9
  subst hp9
  have hP := pmP (show List.Perm (α := Nat × va_E) (LqW dA ln g ++ ([(sp, .inr (13, [.int kd, .int (nI pl), .long nu, .ref na, .int (nI nn), .ref ln, .ref lt, .ref mk]))] ++ ([(mk, .inl (dA 1, kN, .inl fk))] ++ (LqW dA lt gb ++ (ws))))) ([(sp, .inr (13, [.int kd, .int (nI pl), .long nu, .ref na, .int (nI nn), .ref ln, .ref lt, .ref mk]))] ++ (LqW dA ln g ++ ([(mk, .inl (dA 1, kN, .inl fk))] ++ (LqW dA lt gb ++ (ws))))) from List.perm_append_comm_assoc (LqW dA ln g) ([(sp, .inr (13, [.int kd, .int (nI pl), .long nu, .ref na, .int (nI nn), .ref ln, .ref lt, .ref mk]))]) ([(mk, .inl (dA 1, kN, .inl fk))] ++ (LqW dA lt gb ++ (ws)))) hP
  have hD := pmD (show List.Perm (α := Nat × va_E) (LqW dA ln g ++ ([(sp, .inr (13, [.int kd, .int (nI pl), .long nu, .ref na, .int (nI nn), .ref ln, .ref lt, .ref mk]))] ++ ([(mk, .inl (dA 1, kN, .inl fk))] ++ (LqW dA lt gb ++ (ws))))) ([(sp, .inr (13, [.int kd, .int (nI pl), .long nu, .ref na, .int (nI nn), .ref ln, .ref lt, .ref mk]))] ++ (LqW dA ln g ++ ([(mk, .inl (dA 1, kN, .inl fk))] ++ (LqW dA lt gb ++ (ws))))) from List.perm_append_comm_assoc (LqW dA ln g) ([(sp, .inr (13, [.int kd, .int (nI pl), .long nu, .ref na, .int (nI nn), .ref ln, .ref lt, .ref mk]))]) ([(mk, .inl (dA 1, kN, .inl fk))] ++ (LqW dA lt gb ++ (ws)))) hD
  have hP := pmP (show List.Perm (α := Nat × va_E) ([(sp, .inr (13, [.int kd, .int (nI pl), .long nu, .ref na, .int (nI nn), .ref ln, .ref lt, .ref mk]))] ++ (LqW dA ln g ++ ([(mk, .inl (dA 1, kN, .inl fk))] ++ (LqW dA lt gb ++ (ws))))) ([(sp, .inr (13, [.int kd, .int (nI pl), .long nu, .ref na, .int (nI nn), .ref ln, .ref lt, .ref mk]))] ++ ([(mk, .inl (dA 1, kN, .inl fk))] ++ (LqW dA ln g ++ (LqW dA lt gb ++ (ws))))) from List.Perm.append_left ([(sp, .inr (13, [.int kd, .int (nI pl), .long nu, .ref na, .int (nI nn), .ref ln, .ref lt, .ref mk]))]) (List.perm_append_comm_assoc (LqW dA ln g) ([(mk, .inl (dA 1, kN, .inl fk))]) (LqW dA lt gb ++ (ws)))) hP
  have hD := pmD (show List.Perm (α := Nat × va_E) ([(sp, .inr (13, [.int kd, .int (nI pl), .long nu, .ref na, .int (nI nn), .ref ln, .ref lt, .ref mk]))] ++ (LqW dA ln g ++ ([(mk, .inl (dA 1, kN, .inl fk))] ++ (LqW dA lt gb ++ (ws))))) ([(sp, .inr (13, [.int kd, .int (nI pl), .long nu, .ref na, .int (nI nn), .ref ln, .ref lt, .ref mk]))] ++ ([(mk, .inl (dA 1, kN, .inl fk))] ++ (LqW dA ln g ++ (LqW dA lt gb ++ (ws))))) from List.Perm.append_left ([(sp, .inr (13, [.int kd, .int (nI pl), .long nu, .ref na, .int (nI nn), .ref ln, .ref lt, .ref mk]))]) (List.perm_append_comm_assoc (LqW dA ln g) ([(mk, .inl (dA 1, kN, .inl fk))]) (LqW dA lt gb ++ (ws)))) hD
  refine lv_istore hx hb d_E_addMatch_7 hl (by decide) rfl (fun ls hl => ?_)
  have hl : lv_has ls 5 [(4, .int (nI g.sz)), (0, .ref sp), (1, .int z), (2, .ref wa), (3, .ref wb)] := hl
  refine lv_iload hx hb d_E_addMatch_9 (lv_at hl 0 rfl) ?_
  refine lv_aload_n hx hb d_E_addMatch_11 rfl (lv_at hl 1 rfl) ?_
  refine gF (v := .ref mk) hx hb hown hE hK hP 0 rfl rfl layE 7 (by decide) w1487 rfl d_E_addMatch_12 ?_
  refine va_alen (v := nI kN) hx hb hK hP (1) 1 rfl rfl rfl d_E_addMatch_15 ?_
  refine lv_icmp_ne hx hb d_E_addMatch_16 (tgt := 36) rfl (fun h9 => absurd ((nI_eq (a := g.sz) (b := kN) (by omega) (by omega)).mpr h5) h9) (fun _ => ?_)
  refine lv_aload_n hx hb d_E_addMatch_19 rfl (lv_at hl 1 rfl) ?_
  refine lv_aload_n hx hb d_E_addMatch_20 rfl (lv_at hl 1 rfl) ?_
  refine gF (v := .ref mk) hx hb hown hE hK hP 0 rfl rfl layE 7 (by decide) w1487 rfl d_E_addMatch_21 ?_
  refine lv_iconst (v := 2) hx hb d_E_addMatch_24 (by decide) ?_
  refine lv_iload hx hb d_E_addMatch_25 (lv_at hl 0 rfl) ?_
  refine lv_imul hx hb d_E_addMatch_27 (tpi (y := nI (2 * g.sz)) (pk_mul (2) (g.sz)) ?_)
  refine lv_iconst (v := 2) hx hb d_E_addMatch_28 (by decide) ?_
  refine lv_iadd hx hb d_E_addMatch_29 (tpi (y := nI ((2 * g.sz) + 2)) (nI_add (2 * g.sz) (2)) ?_)
  refine jkR (wr := []) (rnS (As := [.ref mk, .int (nI ((2 * g.sz) + 2))]) (rest := [.ref sp]) hx hb hml hown hE hK (hN _ _ hS) hP hD (v_copyOfi l D dA H.size ([(sp, .inr (13, [.int kd, .int (nI pl), .long nu, .ref na, .int (nI nn), .ref ln, .ref lt, .ref mk]))] ++ ([(mk, .inl (dA 1, kN, .inl fk))] ++ (LqW dA ln g ++ (LqW dA lt gb ++ (ws))))) mk kN fk ((2 * g.sz) + 2) (List.mem_of_getElem? (i := 1) rfl) (show kN < ((2 * g.sz) + 2) from by omega) (show ((2 * g.sz) + 2) ≤ 131072 from by omega)) w1111 w1637 w1113 w712 rfl rfl ⟨⟨by decide, by decide⟩, rfl⟩ ⟨(Nat.le_of_ble_eq_true rfl), (Nat.le_of_ble_eq_true rfl)⟩ rfl hl.1 rfl (Nat.le_of_ble_eq_true rfl) d_E_addMatch_30 ⟨(show 0 + 0 + 1 ≤ 3 by omega), (show 0 + 0 + ((2 * g.sz) + 2) ≤ 2 * g.sz + 2 + gqS g + gqS gb by omega)⟩) hP hD hS hA (fun u3 q0 H locs hp9 hP hD hS => ?_)
  have hP : va_P D vwCl ([(q0, .inl (dA 1, (2 * g.sz) + 2, .inl (va_cpy fk (fun _ => 0) 0 0 (min kN ((2 * g.sz) + 2)))))] ++ ([(sp, .inr (13, [.int kd, .int (nI pl), .long nu, .ref na, .int (nI nn), .ref ln, .ref lt, .ref mk]))] ++ ([(mk, .inl (dA 1, kN, .inl fk))] ++ (LqW dA ln g ++ (LqW dA lt gb ++ (ws)))))) H := hP
  have hD : va_D A ([(q0, .inl (dA 1, (2 * g.sz) + 2, .inl (va_cpy fk (fun _ => 0) 0 0 (min kN ((2 * g.sz) + 2)))))] ++ ([(sp, .inr (13, [.int kd, .int (nI pl), .long nu, .ref na, .int (nI nn), .ref ln, .ref lt, .ref mk]))] ++ ([(mk, .inl (dA 1, kN, .inl fk))] ++ (LqW dA ln g ++ (LqW dA lt gb ++ (ws)))))) := hD
  refine pF (v := .ref q0) hx hb hown hE hK hP hD hS 1 rfl rfl layE tyE tokE nmE 7 (by decide) w1487 rfl rfl rfl (Nat.le_of_ble_eq_true rfl) d_E_addMatch_33 (fun H locs hP hD hS => ?_)
  have hP : va_P D vwCl ([(q0, .inl (dA 1, (2 * g.sz) + 2, .inl (va_cpy fk (fun _ => 0) 0 0 (min kN ((2 * g.sz) + 2)))))] ++ ([(sp, .inr (13, [.int kd, .int (nI pl), .long nu, .ref na, .int (nI nn), .ref ln, .ref lt, .ref q0]))] ++ ([(mk, .inl (dA 1, kN, .inl fk))] ++ (LqW dA ln g ++ (LqW dA lt gb ++ (ws)))))) H := hP
  have hD : va_D A ([(q0, .inl (dA 1, (2 * g.sz) + 2, .inl (va_cpy fk (fun _ => 0) 0 0 (min kN ((2 * g.sz) + 2)))))] ++ ([(sp, .inr (13, [.int kd, .int (nI pl), .long nu, .ref na, .int (nI nn), .ref ln, .ref lt, .ref q0]))] ++ ([(mk, .inl (dA 1, kN, .inl fk))] ++ (LqW dA ln g ++ (LqW dA lt gb ++ (ws)))))) := hD
  refine lv_aload_n hx hb d_E_addMatch_36 rfl (lv_at hl 1 rfl) ?_
  refine gF (v := .ref q0) hx hb hown hE hK hP 1 rfl rfl layE 7 (by decide) w1487 rfl d_E_addMatch_37 ?_
  refine lv_iload hx hb d_E_addMatch_40 (lv_at hl 0 rfl) ?_
  refine lv_iload_n hx hb d_E_addMatch_42 rfl (lv_at hl 2 rfl) ?_
  refine nist (n := (2 * g.sz) + 2) hx hb hK hP hD hS (0) 1 rfl rfl (g.sz) (by omega) (by omega) d_E_addMatch_43 (fun H locs hP hD hS => ?_)
  have hP : va_P D vwCl ([(q0, .inl (dA 1, (2 * g.sz) + 2, .inl (va_up (va_cpy fk (fun _ => 0) 0 0 (min kN ((2 * g.sz) + 2))) g.sz z)))] ++ ([(sp, .inr (13, [.int kd, .int (nI pl), .long nu, .ref na, .int (nI nn), .ref ln, .ref lt, .ref q0]))] ++ ([(mk, .inl (dA 1, kN, .inl fk))] ++ (LqW dA ln g ++ (LqW dA lt gb ++ (ws)))))) H := hP
  have hD : va_D A ([(q0, .inl (dA 1, (2 * g.sz) + 2, .inl (va_up (va_cpy fk (fun _ => 0) 0 0 (min kN ((2 * g.sz) + 2))) g.sz z)))] ++ ([(sp, .inr (13, [.int kd, .int (nI pl), .long nu, .ref na, .int (nI nn), .ref ln, .ref lt, .ref q0]))] ++ ([(mk, .inl (dA 1, kN, .inl fk))] ++ (LqW dA ln g ++ (LqW dA lt gb ++ (ws)))))) := hD
  refine lv_aload_n hx hb d_E_addMatch_44 rfl (lv_at hl 1 rfl) ?_
  refine gF (v := .ref ln) hx hb hown hE hK hP 1 rfl rfl layE 5 (by decide) w1482 rfl d_E_addMatch_45 ?_
  refine lv_aload_n hx hb d_E_addMatch_48 rfl (lv_at hl 3 rfl) ?_
  have hP := pmP (show List.Perm (α := Nat × va_E) ([(q0, .inl (dA 1, (2 * g.sz) + 2, .inl (va_up (va_cpy fk (fun _ => 0) 0 0 (min kN ((2 * g.sz) + 2))) g.sz z)))] ++ ([(sp, .inr (13, [.int kd, .int (nI pl), .long nu, .ref na, .int (nI nn), .ref ln, .ref lt, .ref q0]))] ++ ([(mk, .inl (dA 1, kN, .inl fk))] ++ (LqW dA ln g ++ (LqW dA lt gb ++ (ws)))))) (LqW dA ln g ++ ([(q0, .inl (dA 1, (2 * g.sz) + 2, .inl (va_up (va_cpy fk (fun _ => 0) 0 0 (min kN ((2 * g.sz) + 2))) g.sz z)))] ++ ([(sp, .inr (13, [.int kd, .int (nI pl), .long nu, .ref na, .int (nI nn), .ref ln, .ref lt, .ref q0]))] ++ ([(mk, .inl (dA 1, kN, .inl fk))] ++ (LqW dA lt gb ++ (ws)))))) from (List.Perm.append_left ([(q0, .inl (dA 1, (2 * g.sz) + 2, .inl (va_up (va_cpy fk (fun _ => 0) 0 0 (min kN ((2 * g.sz) + 2))) g.sz z)))]) ((List.Perm.append_left ([(sp, .inr (13, [.int kd, .int (nI pl), .long nu, .ref na, .int (nI nn), .ref ln, .ref lt, .ref q0]))]) (List.perm_append_comm_assoc ([(mk, .inl (dA 1, kN, .inl fk))]) (LqW dA ln g) (LqW dA lt gb ++ (ws)))).trans (List.perm_append_comm_assoc ([(sp, .inr (13, [.int kd, .int (nI pl), .long nu, .ref na, .int (nI nn), .ref ln, .ref lt, .ref q0]))]) (LqW dA ln g) ([(mk, .inl (dA 1, kN, .inl fk))] ++ (LqW dA lt gb ++ (ws)))))).trans (List.perm_append_comm_assoc ([(q0, .inl (dA 1, (2 * g.sz) + 2, .inl (va_up (va_cpy fk (fun _ => 0) 0 0 (min kN ((2 * g.sz) + 2))) g.sz z)))]) (LqW dA ln g) ([(sp, .inr (13, [.int kd, .int (nI pl), .long nu, .ref na, .int (nI nn), .ref ln, .ref lt, .ref q0]))] ++ ([(mk, .inl (dA 1, kN, .inl fk))] ++ (LqW dA lt gb ++ (ws)))))) hP
  have hD := pmD (show List.Perm (α := Nat × va_E) ([(q0, .inl (dA 1, (2 * g.sz) + 2, .inl (va_up (va_cpy fk (fun _ => 0) 0 0 (min kN ((2 * g.sz) + 2))) g.sz z)))] ++ ([(sp, .inr (13, [.int kd, .int (nI pl), .long nu, .ref na, .int (nI nn), .ref ln, .ref lt, .ref q0]))] ++ ([(mk, .inl (dA 1, kN, .inl fk))] ++ (LqW dA ln g ++ (LqW dA lt gb ++ (ws)))))) (LqW dA ln g ++ ([(q0, .inl (dA 1, (2 * g.sz) + 2, .inl (va_up (va_cpy fk (fun _ => 0) 0 0 (min kN ((2 * g.sz) + 2))) g.sz z)))] ++ ([(sp, .inr (13, [.int kd, .int (nI pl), .long nu, .ref na, .int (nI nn), .ref ln, .ref lt, .ref q0]))] ++ ([(mk, .inl (dA 1, kN, .inl fk))] ++ (LqW dA lt gb ++ (ws)))))) from (List.Perm.append_left ([(q0, .inl (dA 1, (2 * g.sz) + 2, .inl (va_up (va_cpy fk (fun _ => 0) 0 0 (min kN ((2 * g.sz) + 2))) g.sz z)))]) ((List.Perm.append_left ([(sp, .inr (13, [.int kd, .int (nI pl), .long nu, .ref na, .int (nI nn), .ref ln, .ref lt, .ref q0]))]) (List.perm_append_comm_assoc ([(mk, .inl (dA 1, kN, .inl fk))]) (LqW dA ln g) (LqW dA lt gb ++ (ws)))).trans (List.perm_append_comm_assoc ([(sp, .inr (13, [.int kd, .int (nI pl), .long nu, .ref na, .int (nI nn), .ref ln, .ref lt, .ref q0]))]) (LqW dA ln g) ([(mk, .inl (dA 1, kN, .inl fk))] ++ (LqW dA lt gb ++ (ws)))))).trans (List.perm_append_comm_assoc ([(q0, .inl (dA 1, (2 * g.sz) + 2, .inl (va_up (va_cpy fk (fun _ => 0) 0 0 (min kN ((2 * g.sz) + 2))) g.sz z)))]) (LqW dA ln g) ([(sp, .inr (13, [.int kd, .int (nI pl), .long nu, .ref na, .int (nI nn), .ref ln, .ref lt, .ref q0]))] ++ ([(mk, .inl (dA 1, kN, .inl fk))] ++ (LqW dA lt gb ++ (ws)))))) hD
  refine jkI (wr := []) (rnVy (As := [.ref wa]) (rest := []) hx hb hml hown hE hK hZ hT hM hS (hN _ _ hS) hP hD (v_LaddQ_W l D dA H.size e0 mi ([(q0, .inl (dA 1, (2 * g.sz) + 2, .inl (va_up (va_cpy fk (fun _ => 0) 0 0 (min kN ((2 * g.sz) + 2))) g.sz z)))] ++ ([(sp, .inr (13, [.int kd, .int (nI pl), .long nu, .ref na, .int (nI nn), .ref ln, .ref lt, .ref q0]))] ++ ([(mk, .inl (dA 1, kN, .inl fk))] ++ (LqW dA lt gb ++ (ws))))) ln g wa ([.ref bwa]) hg (fun i hi y hy => by obtain ⟨vs, hv⟩ := hel i hi y hy; exact ⟨vs, (fun _ hm => (List.mem_append_right _ (List.mem_append_right _ (List.mem_append_right _ (List.mem_append_right _ hm))))) _ hv⟩) ((fun _ hm => (List.mem_append_right _ (List.mem_append_right _ (List.mem_append_right _ (List.mem_append_right _ hm))))) _ kwa)) (q0 := 0) rfl rfl w812 w1536 w813 w814 w680 rfl rfl ⟨⟨by decide, by decide⟩, rfl⟩ ⟨(Nat.le_of_ble_eq_true rfl), (Nat.le_of_ble_eq_true rfl)⟩ rfl hl.1 rfl (Nat.le_of_ble_eq_true rfl) d_E_addMatch_49 ⟨(show 0 + 0 + 1 + 1 ≤ 3 by omega), (show 0 + 0 + ((2 * g.sz) + 2) + (gqS g) ≤ 2 * g.sz + 2 + gqS g + gqS gb by omega)⟩) hP hD hS hA (fun r4 u5 H locs hp9 hP hD hS => ?_)
  obtain ⟨gq, h9u⟩ : ∃ z9, z9 = u5 := ⟨_, rfl⟩
  subst h9u
  have hP : va_P D vwCl (LqW dA ln gq ++ ([(q0, .inl (dA 1, (2 * g.sz) + 2, .inl (va_up (va_cpy fk (fun _ => 0) 0 0 (min kN ((2 * g.sz) + 2))) g.sz z)))] ++ ([(sp, .inr (13, [.int kd, .int (nI pl), .long nu, .ref na, .int (nI nn), .ref ln, .ref lt, .ref q0]))] ++ ([(mk, .inl (dA 1, kN, .inl fk))] ++ (LqW dA lt gb ++ (ws)))))) H := hP
  have hD : va_D A (LqW dA ln gq ++ ([(q0, .inl (dA 1, (2 * g.sz) + 2, .inl (va_up (va_cpy fk (fun _ => 0) 0 0 (min kN ((2 * g.sz) + 2))) g.sz z)))] ++ ([(sp, .inr (13, [.int kd, .int (nI pl), .long nu, .ref na, .int (nI nn), .ref ln, .ref lt, .ref q0]))] ++ ([(mk, .inl (dA 1, kN, .inl fk))] ++ (LqW dA lt gb ++ (ws)))))) := hD
  obtain ⟨hp9, f_f_6⟩ := hp9
  replace hp9 : 1 = r4 := Eq.symm hp9
  subst hp9
  refine lv_pop hx hb d_E_addMatch_52 rfl ?_
  refine lv_aload_n hx hb d_E_addMatch_53 rfl (lv_at hl 1 rfl) ?_
  have hP := pmP (show List.Perm (α := Nat × va_E) (LqW dA ln gq ++ ([(q0, .inl (dA 1, (2 * g.sz) + 2, .inl (va_up (va_cpy fk (fun _ => 0) 0 0 (min kN ((2 * g.sz) + 2))) g.sz z)))] ++ ([(sp, .inr (13, [.int kd, .int (nI pl), .long nu, .ref na, .int (nI nn), .ref ln, .ref lt, .ref q0]))] ++ ([(mk, .inl (dA 1, kN, .inl fk))] ++ (LqW dA lt gb ++ (ws)))))) ([(sp, .inr (13, [.int kd, .int (nI pl), .long nu, .ref na, .int (nI nn), .ref ln, .ref lt, .ref q0]))] ++ (LqW dA ln gq ++ ([(q0, .inl (dA 1, (2 * g.sz) + 2, .inl (va_up (va_cpy fk (fun _ => 0) 0 0 (min kN ((2 * g.sz) + 2))) g.sz z)))] ++ ([(mk, .inl (dA 1, kN, .inl fk))] ++ (LqW dA lt gb ++ (ws)))))) from (List.Perm.append_left (LqW dA ln gq) (List.perm_append_comm_assoc ([(q0, .inl (dA 1, (2 * g.sz) + 2, .inl (va_up (va_cpy fk (fun _ => 0) 0 0 (min kN ((2 * g.sz) + 2))) g.sz z)))]) ([(sp, .inr (13, [.int kd, .int (nI pl), .long nu, .ref na, .int (nI nn), .ref ln, .ref lt, .ref q0]))]) ([(mk, .inl (dA 1, kN, .inl fk))] ++ (LqW dA lt gb ++ (ws))))).trans (List.perm_append_comm_assoc (LqW dA ln gq) ([(sp, .inr (13, [.int kd, .int (nI pl), .long nu, .ref na, .int (nI nn), .ref ln, .ref lt, .ref q0]))]) ([(q0, .inl (dA 1, (2 * g.sz) + 2, .inl (va_up (va_cpy fk (fun _ => 0) 0 0 (min kN ((2 * g.sz) + 2))) g.sz z)))] ++ ([(mk, .inl (dA 1, kN, .inl fk))] ++ (LqW dA lt gb ++ (ws)))))) hP
  have hD := pmD (show List.Perm (α := Nat × va_E) (LqW dA ln gq ++ ([(q0, .inl (dA 1, (2 * g.sz) + 2, .inl (va_up (va_cpy fk (fun _ => 0) 0 0 (min kN ((2 * g.sz) + 2))) g.sz z)))] ++ ([(sp, .inr (13, [.int kd, .int (nI pl), .long nu, .ref na, .int (nI nn), .ref ln, .ref lt, .ref q0]))] ++ ([(mk, .inl (dA 1, kN, .inl fk))] ++ (LqW dA lt gb ++ (ws)))))) ([(sp, .inr (13, [.int kd, .int (nI pl), .long nu, .ref na, .int (nI nn), .ref ln, .ref lt, .ref q0]))] ++ (LqW dA ln gq ++ ([(q0, .inl (dA 1, (2 * g.sz) + 2, .inl (va_up (va_cpy fk (fun _ => 0) 0 0 (min kN ((2 * g.sz) + 2))) g.sz z)))] ++ ([(mk, .inl (dA 1, kN, .inl fk))] ++ (LqW dA lt gb ++ (ws)))))) from (List.Perm.append_left (LqW dA ln gq) (List.perm_append_comm_assoc ([(q0, .inl (dA 1, (2 * g.sz) + 2, .inl (va_up (va_cpy fk (fun _ => 0) 0 0 (min kN ((2 * g.sz) + 2))) g.sz z)))]) ([(sp, .inr (13, [.int kd, .int (nI pl), .long nu, .ref na, .int (nI nn), .ref ln, .ref lt, .ref q0]))]) ([(mk, .inl (dA 1, kN, .inl fk))] ++ (LqW dA lt gb ++ (ws))))).trans (List.perm_append_comm_assoc (LqW dA ln gq) ([(sp, .inr (13, [.int kd, .int (nI pl), .long nu, .ref na, .int (nI nn), .ref ln, .ref lt, .ref q0]))]) ([(q0, .inl (dA 1, (2 * g.sz) + 2, .inl (va_up (va_cpy fk (fun _ => 0) 0 0 (min kN ((2 * g.sz) + 2))) g.sz z)))] ++ ([(mk, .inl (dA 1, kN, .inl fk))] ++ (LqW dA lt gb ++ (ws)))))) hD
  have hP := pmP (show List.Perm (α := Nat × va_E) ([(sp, .inr (13, [.int kd, .int (nI pl), .long nu, .ref na, .int (nI nn), .ref ln, .ref lt, .ref q0]))] ++ (LqW dA ln gq ++ ([(q0, .inl (dA 1, (2 * g.sz) + 2, .inl (va_up (va_cpy fk (fun _ => 0) 0 0 (min kN ((2 * g.sz) + 2))) g.sz z)))] ++ ([(mk, .inl (dA 1, kN, .inl fk))] ++ (LqW dA lt gb ++ (ws)))))) ([(sp, .inr (13, [.int kd, .int (nI pl), .long nu, .ref na, .int (nI nn), .ref ln, .ref lt, .ref q0]))] ++ ([(q0, .inl (dA 1, (2 * g.sz) + 2, .inl (va_up (va_cpy fk (fun _ => 0) 0 0 (min kN ((2 * g.sz) + 2))) g.sz z)))] ++ (LqW dA ln gq ++ ([(mk, .inl (dA 1, kN, .inl fk))] ++ (LqW dA lt gb ++ (ws)))))) from List.Perm.append_left ([(sp, .inr (13, [.int kd, .int (nI pl), .long nu, .ref na, .int (nI nn), .ref ln, .ref lt, .ref q0]))]) (List.perm_append_comm_assoc (LqW dA ln gq) ([(q0, .inl (dA 1, (2 * g.sz) + 2, .inl (va_up (va_cpy fk (fun _ => 0) 0 0 (min kN ((2 * g.sz) + 2))) g.sz z)))]) ([(mk, .inl (dA 1, kN, .inl fk))] ++ (LqW dA lt gb ++ (ws))))) hP
  have hD := pmD (show List.Perm (α := Nat × va_E) ([(sp, .inr (13, [.int kd, .int (nI pl), .long nu, .ref na, .int (nI nn), .ref ln, .ref lt, .ref q0]))] ++ (LqW dA ln gq ++ ([(q0, .inl (dA 1, (2 * g.sz) + 2, .inl (va_up (va_cpy fk (fun _ => 0) 0 0 (min kN ((2 * g.sz) + 2))) g.sz z)))] ++ ([(mk, .inl (dA 1, kN, .inl fk))] ++ (LqW dA lt gb ++ (ws)))))) ([(sp, .inr (13, [.int kd, .int (nI pl), .long nu, .ref na, .int (nI nn), .ref ln, .ref lt, .ref q0]))] ++ ([(q0, .inl (dA 1, (2 * g.sz) + 2, .inl (va_up (va_cpy fk (fun _ => 0) 0 0 (min kN ((2 * g.sz) + 2))) g.sz z)))] ++ (LqW dA ln gq ++ ([(mk, .inl (dA 1, kN, .inl fk))] ++ (LqW dA lt gb ++ (ws)))))) from List.Perm.append_left ([(sp, .inr (13, [.int kd, .int (nI pl), .long nu, .ref na, .int (nI nn), .ref ln, .ref lt, .ref q0]))]) (List.perm_append_comm_assoc (LqW dA ln gq) ([(q0, .inl (dA 1, (2 * g.sz) + 2, .inl (va_up (va_cpy fk (fun _ => 0) 0 0 (min kN ((2 * g.sz) + 2))) g.sz z)))]) ([(mk, .inl (dA 1, kN, .inl fk))] ++ (LqW dA lt gb ++ (ws))))) hD
  have hP := pmP (show List.Perm (α := Nat × va_E) ([(sp, .inr (13, [.int kd, .int (nI pl), .long nu, .ref na, .int (nI nn), .ref ln, .ref lt, .ref q0]))] ++ ([(q0, .inl (dA 1, (2 * g.sz) + 2, .inl (va_up (va_cpy fk (fun _ => 0) 0 0 (min kN ((2 * g.sz) + 2))) g.sz z)))] ++ (LqW dA ln gq ++ ([(mk, .inl (dA 1, kN, .inl fk))] ++ (LqW dA lt gb ++ (ws)))))) ([(sp, .inr (13, [.int kd, .int (nI pl), .long nu, .ref na, .int (nI nn), .ref ln, .ref lt, .ref q0]))] ++ ([(q0, .inl (dA 1, (2 * g.sz) + 2, .inl (va_up (va_cpy fk (fun _ => 0) 0 0 (min kN ((2 * g.sz) + 2))) g.sz z)))] ++ ([(mk, .inl (dA 1, kN, .inl fk))] ++ (LqW dA ln gq ++ (LqW dA lt gb ++ (ws)))))) from List.Perm.append_left ([(sp, .inr (13, [.int kd, .int (nI pl), .long nu, .ref na, .int (nI nn), .ref ln, .ref lt, .ref q0]))]) (List.Perm.append_left ([(q0, .inl (dA 1, (2 * g.sz) + 2, .inl (va_up (va_cpy fk (fun _ => 0) 0 0 (min kN ((2 * g.sz) + 2))) g.sz z)))]) (List.perm_append_comm_assoc (LqW dA ln gq) ([(mk, .inl (dA 1, kN, .inl fk))]) (LqW dA lt gb ++ (ws))))) hP
  have hD := pmD (show List.Perm (α := Nat × va_E) ([(sp, .inr (13, [.int kd, .int (nI pl), .long nu, .ref na, .int (nI nn), .ref ln, .ref lt, .ref q0]))] ++ ([(q0, .inl (dA 1, (2 * g.sz) + 2, .inl (va_up (va_cpy fk (fun _ => 0) 0 0 (min kN ((2 * g.sz) + 2))) g.sz z)))] ++ (LqW dA ln gq ++ ([(mk, .inl (dA 1, kN, .inl fk))] ++ (LqW dA lt gb ++ (ws)))))) ([(sp, .inr (13, [.int kd, .int (nI pl), .long nu, .ref na, .int (nI nn), .ref ln, .ref lt, .ref q0]))] ++ ([(q0, .inl (dA 1, (2 * g.sz) + 2, .inl (va_up (va_cpy fk (fun _ => 0) 0 0 (min kN ((2 * g.sz) + 2))) g.sz z)))] ++ ([(mk, .inl (dA 1, kN, .inl fk))] ++ (LqW dA ln gq ++ (LqW dA lt gb ++ (ws)))))) from List.Perm.append_left ([(sp, .inr (13, [.int kd, .int (nI pl), .long nu, .ref na, .int (nI nn), .ref ln, .ref lt, .ref q0]))]) (List.Perm.append_left ([(q0, .inl (dA 1, (2 * g.sz) + 2, .inl (va_up (va_cpy fk (fun _ => 0) 0 0 (min kN ((2 * g.sz) + 2))) g.sz z)))]) (List.perm_append_comm_assoc (LqW dA ln gq) ([(mk, .inl (dA 1, kN, .inl fk))]) (LqW dA lt gb ++ (ws))))) hD
  refine gF (v := .ref lt) hx hb hown hE hK hP 0 rfl rfl layE 6 (by decide) w1494 rfl d_E_addMatch_54 ?_
  refine lv_aload_n hx hb d_E_addMatch_57 rfl (lv_at hl 4 rfl) ?_
  have hP := pmP (show List.Perm (α := Nat × va_E) ([(sp, .inr (13, [.int kd, .int (nI pl), .long nu, .ref na, .int (nI nn), .ref ln, .ref lt, .ref q0]))] ++ ([(q0, .inl (dA 1, (2 * g.sz) + 2, .inl (va_up (va_cpy fk (fun _ => 0) 0 0 (min kN ((2 * g.sz) + 2))) g.sz z)))] ++ ([(mk, .inl (dA 1, kN, .inl fk))] ++ (LqW dA ln gq ++ (LqW dA lt gb ++ (ws)))))) (LqW dA lt gb ++ ([(sp, .inr (13, [.int kd, .int (nI pl), .long nu, .ref na, .int (nI nn), .ref ln, .ref lt, .ref q0]))] ++ ([(q0, .inl (dA 1, (2 * g.sz) + 2, .inl (va_up (va_cpy fk (fun _ => 0) 0 0 (min kN ((2 * g.sz) + 2))) g.sz z)))] ++ ([(mk, .inl (dA 1, kN, .inl fk))] ++ (LqW dA ln gq ++ (ws)))))) from (List.Perm.append_left ([(sp, .inr (13, [.int kd, .int (nI pl), .long nu, .ref na, .int (nI nn), .ref ln, .ref lt, .ref q0]))]) ((List.Perm.append_left ([(q0, .inl (dA 1, (2 * g.sz) + 2, .inl (va_up (va_cpy fk (fun _ => 0) 0 0 (min kN ((2 * g.sz) + 2))) g.sz z)))]) ((List.Perm.append_left ([(mk, .inl (dA 1, kN, .inl fk))]) (List.perm_append_comm_assoc (LqW dA ln gq) (LqW dA lt gb) (ws))).trans (List.perm_append_comm_assoc ([(mk, .inl (dA 1, kN, .inl fk))]) (LqW dA lt gb) (LqW dA ln gq ++ (ws))))).trans (List.perm_append_comm_assoc ([(q0, .inl (dA 1, (2 * g.sz) + 2, .inl (va_up (va_cpy fk (fun _ => 0) 0 0 (min kN ((2 * g.sz) + 2))) g.sz z)))]) (LqW dA lt gb) ([(mk, .inl (dA 1, kN, .inl fk))] ++ (LqW dA ln gq ++ (ws)))))).trans (List.perm_append_comm_assoc ([(sp, .inr (13, [.int kd, .int (nI pl), .long nu, .ref na, .int (nI nn), .ref ln, .ref lt, .ref q0]))]) (LqW dA lt gb) ([(q0, .inl (dA 1, (2 * g.sz) + 2, .inl (va_up (va_cpy fk (fun _ => 0) 0 0 (min kN ((2 * g.sz) + 2))) g.sz z)))] ++ ([(mk, .inl (dA 1, kN, .inl fk))] ++ (LqW dA ln gq ++ (ws)))))) hP
  have hD := pmD (show List.Perm (α := Nat × va_E) ([(sp, .inr (13, [.int kd, .int (nI pl), .long nu, .ref na, .int (nI nn), .ref ln, .ref lt, .ref q0]))] ++ ([(q0, .inl (dA 1, (2 * g.sz) + 2, .inl (va_up (va_cpy fk (fun _ => 0) 0 0 (min kN ((2 * g.sz) + 2))) g.sz z)))] ++ ([(mk, .inl (dA 1, kN, .inl fk))] ++ (LqW dA ln gq ++ (LqW dA lt gb ++ (ws)))))) (LqW dA lt gb ++ ([(sp, .inr (13, [.int kd, .int (nI pl), .long nu, .ref na, .int (nI nn), .ref ln, .ref lt, .ref q0]))] ++ ([(q0, .inl (dA 1, (2 * g.sz) + 2, .inl (va_up (va_cpy fk (fun _ => 0) 0 0 (min kN ((2 * g.sz) + 2))) g.sz z)))] ++ ([(mk, .inl (dA 1, kN, .inl fk))] ++ (LqW dA ln gq ++ (ws)))))) from (List.Perm.append_left ([(sp, .inr (13, [.int kd, .int (nI pl), .long nu, .ref na, .int (nI nn), .ref ln, .ref lt, .ref q0]))]) ((List.Perm.append_left ([(q0, .inl (dA 1, (2 * g.sz) + 2, .inl (va_up (va_cpy fk (fun _ => 0) 0 0 (min kN ((2 * g.sz) + 2))) g.sz z)))]) ((List.Perm.append_left ([(mk, .inl (dA 1, kN, .inl fk))]) (List.perm_append_comm_assoc (LqW dA ln gq) (LqW dA lt gb) (ws))).trans (List.perm_append_comm_assoc ([(mk, .inl (dA 1, kN, .inl fk))]) (LqW dA lt gb) (LqW dA ln gq ++ (ws))))).trans (List.perm_append_comm_assoc ([(q0, .inl (dA 1, (2 * g.sz) + 2, .inl (va_up (va_cpy fk (fun _ => 0) 0 0 (min kN ((2 * g.sz) + 2))) g.sz z)))]) (LqW dA lt gb) ([(mk, .inl (dA 1, kN, .inl fk))] ++ (LqW dA ln gq ++ (ws)))))).trans (List.perm_append_comm_assoc ([(sp, .inr (13, [.int kd, .int (nI pl), .long nu, .ref na, .int (nI nn), .ref ln, .ref lt, .ref q0]))]) (LqW dA lt gb) ([(q0, .inl (dA 1, (2 * g.sz) + 2, .inl (va_up (va_cpy fk (fun _ => 0) 0 0 (min kN ((2 * g.sz) + 2))) g.sz z)))] ++ ([(mk, .inl (dA 1, kN, .inl fk))] ++ (LqW dA ln gq ++ (ws)))))) hD
  refine jkI (wr := []) (rnVy (As := [.ref wb]) (rest := []) hx hb hml hown hE hK hZ hT hM hS (hN _ _ hS) hP hD (v_LaddQ_W l D dA H.size e0 mi ([(sp, .inr (13, [.int kd, .int (nI pl), .long nu, .ref na, .int (nI nn), .ref ln, .ref lt, .ref q0]))] ++ ([(q0, .inl (dA 1, (2 * g.sz) + 2, .inl (va_up (va_cpy fk (fun _ => 0) 0 0 (min kN ((2 * g.sz) + 2))) g.sz z)))] ++ ([(mk, .inl (dA 1, kN, .inl fk))] ++ (LqW dA ln gq ++ (ws))))) lt gb wb ([.ref bwb]) hgb (fun i hi y hy => by obtain ⟨vs, hv⟩ := hem i hi y hy; exact ⟨vs, (fun _ hm => (List.mem_append_right _ (List.mem_append_right _ (List.mem_append_right _ (List.mem_append_right _ hm))))) _ hv⟩) ((fun _ hm => (List.mem_append_right _ (List.mem_append_right _ (List.mem_append_right _ (List.mem_append_right _ hm))))) _ kwb)) (q0 := 0) rfl rfl w812 w1536 w813 w814 w680 rfl rfl ⟨⟨by decide, by decide⟩, rfl⟩ ⟨(Nat.le_of_ble_eq_true rfl), (Nat.le_of_ble_eq_true rfl)⟩ rfl hl.1 rfl (Nat.le_of_ble_eq_true rfl) d_E_addMatch_58 ⟨(show 0 + 0 + 1 + 1 + 1 ≤ 3 by omega), (show 0 + 0 + ((2 * g.sz) + 2) + (gqS g) + (gqS gb) ≤ 2 * g.sz + 2 + gqS g + gqS gb by omega)⟩) hP hD hS hA (fun r7 u8 H locs hp9 hP hD hS => ?_)
  obtain ⟨gr, h9u⟩ : ∃ z9, z9 = u8 := ⟨_, rfl⟩
  subst h9u
  have hP : va_P D vwCl (LqW dA lt gr ++ ([(sp, .inr (13, [.int kd, .int (nI pl), .long nu, .ref na, .int (nI nn), .ref ln, .ref lt, .ref q0]))] ++ ([(q0, .inl (dA 1, (2 * g.sz) + 2, .inl (va_up (va_cpy fk (fun _ => 0) 0 0 (min kN ((2 * g.sz) + 2))) g.sz z)))] ++ ([(mk, .inl (dA 1, kN, .inl fk))] ++ (LqW dA ln gq ++ (ws)))))) H := hP
  have hD : va_D A (LqW dA lt gr ++ ([(sp, .inr (13, [.int kd, .int (nI pl), .long nu, .ref na, .int (nI nn), .ref ln, .ref lt, .ref q0]))] ++ ([(q0, .inl (dA 1, (2 * g.sz) + 2, .inl (va_up (va_cpy fk (fun _ => 0) 0 0 (min kN ((2 * g.sz) + 2))) g.sz z)))] ++ ([(mk, .inl (dA 1, kN, .inl fk))] ++ (LqW dA ln gq ++ (ws)))))) := hD
  obtain ⟨hp9, f_f_9⟩ := hp9
  replace hp9 : 1 = r7 := Eq.symm hp9
  subst hp9
  refine lv_pop hx hb d_E_addMatch_61 rfl ?_
  have hP := sbP (show List.Sublist (α := Nat × va_E) (LqW dA lt gr ++ ([(sp, .inr (13, [.int kd, .int (nI pl), .long nu, .ref na, .int (nI nn), .ref ln, .ref lt, .ref q0]))] ++ ([(q0, .inl (dA 1, (2 * g.sz) + 2, .inl (va_up (va_cpy fk (fun _ => 0) 0 0 (min kN ((2 * g.sz) + 2))) g.sz z)))] ++ (LqW dA ln gq ++ (ws))))) (LqW dA lt gr ++ ([(sp, .inr (13, [.int kd, .int (nI pl), .long nu, .ref na, .int (nI nn), .ref ln, .ref lt, .ref q0]))] ++ ([(q0, .inl (dA 1, (2 * g.sz) + 2, .inl (va_up (va_cpy fk (fun _ => 0) 0 0 (min kN ((2 * g.sz) + 2))) g.sz z)))] ++ ([(mk, .inl (dA 1, kN, .inl fk))] ++ (LqW dA ln gq ++ (ws)))))) from List.Sublist.append (List.Sublist.refl _) (List.Sublist.append (List.Sublist.refl _) (List.Sublist.append (List.Sublist.refl _) (List.sublist_append_of_sublist_right (List.Sublist.append (List.Sublist.refl _) (List.Sublist.refl _)))))) hP
  have hD := sbD (show List.Sublist (α := Nat × va_E) (LqW dA lt gr ++ ([(sp, .inr (13, [.int kd, .int (nI pl), .long nu, .ref na, .int (nI nn), .ref ln, .ref lt, .ref q0]))] ++ ([(q0, .inl (dA 1, (2 * g.sz) + 2, .inl (va_up (va_cpy fk (fun _ => 0) 0 0 (min kN ((2 * g.sz) + 2))) g.sz z)))] ++ (LqW dA ln gq ++ (ws))))) (LqW dA lt gr ++ ([(sp, .inr (13, [.int kd, .int (nI pl), .long nu, .ref na, .int (nI nn), .ref ln, .ref lt, .ref q0]))] ++ ([(q0, .inl (dA 1, (2 * g.sz) + 2, .inl (va_up (va_cpy fk (fun _ => 0) 0 0 (min kN ((2 * g.sz) + 2))) g.sz z)))] ++ ([(mk, .inl (dA 1, kN, .inl fk))] ++ (LqW dA ln gq ++ (ws)))))) from List.Sublist.append (List.Sublist.refl _) (List.Sublist.append (List.Sublist.refl _) (List.Sublist.append (List.Sublist.refl _) (List.sublist_append_of_sublist_right (List.Sublist.append (List.Sublist.refl _) (List.Sublist.refl _)))))) hD
  have hP := pmP (show List.Perm (α := Nat × va_E) (LqW dA lt gr ++ ([(sp, .inr (13, [.int kd, .int (nI pl), .long nu, .ref na, .int (nI nn), .ref ln, .ref lt, .ref q0]))] ++ ([(q0, .inl (dA 1, (2 * g.sz) + 2, .inl (va_up (va_cpy fk (fun _ => 0) 0 0 (min kN ((2 * g.sz) + 2))) g.sz z)))] ++ (LqW dA ln gq ++ (ws))))) ([(q0, .inl (dA 1, (2 * g.sz) + 2, .inl (va_up (va_cpy fk (fun _ => 0) 0 0 (min kN ((2 * g.sz) + 2))) g.sz z)))] ++ (LqW dA lt gr ++ ([(sp, .inr (13, [.int kd, .int (nI pl), .long nu, .ref na, .int (nI nn), .ref ln, .ref lt, .ref q0]))] ++ (LqW dA ln gq ++ (ws))))) from (List.Perm.append_left (LqW dA lt gr) (List.perm_append_comm_assoc ([(sp, .inr (13, [.int kd, .int (nI pl), .long nu, .ref na, .int (nI nn), .ref ln, .ref lt, .ref q0]))]) ([(q0, .inl (dA 1, (2 * g.sz) + 2, .inl (va_up (va_cpy fk (fun _ => 0) 0 0 (min kN ((2 * g.sz) + 2))) g.sz z)))]) (LqW dA ln gq ++ (ws)))).trans (List.perm_append_comm_assoc (LqW dA lt gr) ([(q0, .inl (dA 1, (2 * g.sz) + 2, .inl (va_up (va_cpy fk (fun _ => 0) 0 0 (min kN ((2 * g.sz) + 2))) g.sz z)))]) ([(sp, .inr (13, [.int kd, .int (nI pl), .long nu, .ref na, .int (nI nn), .ref ln, .ref lt, .ref q0]))] ++ (LqW dA ln gq ++ (ws))))) hP
  have hD := pmD (show List.Perm (α := Nat × va_E) (LqW dA lt gr ++ ([(sp, .inr (13, [.int kd, .int (nI pl), .long nu, .ref na, .int (nI nn), .ref ln, .ref lt, .ref q0]))] ++ ([(q0, .inl (dA 1, (2 * g.sz) + 2, .inl (va_up (va_cpy fk (fun _ => 0) 0 0 (min kN ((2 * g.sz) + 2))) g.sz z)))] ++ (LqW dA ln gq ++ (ws))))) ([(q0, .inl (dA 1, (2 * g.sz) + 2, .inl (va_up (va_cpy fk (fun _ => 0) 0 0 (min kN ((2 * g.sz) + 2))) g.sz z)))] ++ (LqW dA lt gr ++ ([(sp, .inr (13, [.int kd, .int (nI pl), .long nu, .ref na, .int (nI nn), .ref ln, .ref lt, .ref q0]))] ++ (LqW dA ln gq ++ (ws))))) from (List.Perm.append_left (LqW dA lt gr) (List.perm_append_comm_assoc ([(sp, .inr (13, [.int kd, .int (nI pl), .long nu, .ref na, .int (nI nn), .ref ln, .ref lt, .ref q0]))]) ([(q0, .inl (dA 1, (2 * g.sz) + 2, .inl (va_up (va_cpy fk (fun _ => 0) 0 0 (min kN ((2 * g.sz) + 2))) g.sz z)))]) (LqW dA ln gq ++ (ws)))).trans (List.perm_append_comm_assoc (LqW dA lt gr) ([(q0, .inl (dA 1, (2 * g.sz) + 2, .inl (va_up (va_cpy fk (fun _ => 0) 0 0 (min kN ((2 * g.sz) + 2))) g.sz z)))]) ([(sp, .inr (13, [.int kd, .int (nI pl), .long nu, .ref na, .int (nI nn), .ref ln, .ref lt, .ref q0]))] ++ (LqW dA ln gq ++ (ws))))) hD
  have hP := pmP (show List.Perm (α := Nat × va_E) ([(q0, .inl (dA 1, (2 * g.sz) + 2, .inl (va_up (va_cpy fk (fun _ => 0) 0 0 (min kN ((2 * g.sz) + 2))) g.sz z)))] ++ (LqW dA lt gr ++ ([(sp, .inr (13, [.int kd, .int (nI pl), .long nu, .ref na, .int (nI nn), .ref ln, .ref lt, .ref q0]))] ++ (LqW dA ln gq ++ (ws))))) ([(q0, .inl (dA 1, (2 * g.sz) + 2, .inl (va_up (va_cpy fk (fun _ => 0) 0 0 (min kN ((2 * g.sz) + 2))) g.sz z)))] ++ ([(sp, .inr (13, [.int kd, .int (nI pl), .long nu, .ref na, .int (nI nn), .ref ln, .ref lt, .ref q0]))] ++ (LqW dA lt gr ++ (LqW dA ln gq ++ (ws))))) from List.Perm.append_left ([(q0, .inl (dA 1, (2 * g.sz) + 2, .inl (va_up (va_cpy fk (fun _ => 0) 0 0 (min kN ((2 * g.sz) + 2))) g.sz z)))]) (List.perm_append_comm_assoc (LqW dA lt gr) ([(sp, .inr (13, [.int kd, .int (nI pl), .long nu, .ref na, .int (nI nn), .ref ln, .ref lt, .ref q0]))]) (LqW dA ln gq ++ (ws)))) hP
  have hD := pmD (show List.Perm (α := Nat × va_E) ([(q0, .inl (dA 1, (2 * g.sz) + 2, .inl (va_up (va_cpy fk (fun _ => 0) 0 0 (min kN ((2 * g.sz) + 2))) g.sz z)))] ++ (LqW dA lt gr ++ ([(sp, .inr (13, [.int kd, .int (nI pl), .long nu, .ref na, .int (nI nn), .ref ln, .ref lt, .ref q0]))] ++ (LqW dA ln gq ++ (ws))))) ([(q0, .inl (dA 1, (2 * g.sz) + 2, .inl (va_up (va_cpy fk (fun _ => 0) 0 0 (min kN ((2 * g.sz) + 2))) g.sz z)))] ++ ([(sp, .inr (13, [.int kd, .int (nI pl), .long nu, .ref na, .int (nI nn), .ref ln, .ref lt, .ref q0]))] ++ (LqW dA lt gr ++ (LqW dA ln gq ++ (ws))))) from List.Perm.append_left ([(q0, .inl (dA 1, (2 * g.sz) + 2, .inl (va_up (va_cpy fk (fun _ => 0) 0 0 (min kN ((2 * g.sz) + 2))) g.sz z)))]) (List.perm_append_comm_assoc (LqW dA lt gr) ([(sp, .inr (13, [.int kd, .int (nI pl), .long nu, .ref na, .int (nI nn), .ref ln, .ref lt, .ref q0]))]) (LqW dA ln gq ++ (ws)))) hD
  have hP := pmP (show List.Perm (α := Nat × va_E) ([(q0, .inl (dA 1, (2 * g.sz) + 2, .inl (va_up (va_cpy fk (fun _ => 0) 0 0 (min kN ((2 * g.sz) + 2))) g.sz z)))] ++ ([(sp, .inr (13, [.int kd, .int (nI pl), .long nu, .ref na, .int (nI nn), .ref ln, .ref lt, .ref q0]))] ++ (LqW dA lt gr ++ (LqW dA ln gq ++ (ws))))) ([(q0, .inl (dA 1, (2 * g.sz) + 2, .inl (va_up (va_cpy fk (fun _ => 0) 0 0 (min kN ((2 * g.sz) + 2))) g.sz z)))] ++ ([(sp, .inr (13, [.int kd, .int (nI pl), .long nu, .ref na, .int (nI nn), .ref ln, .ref lt, .ref q0]))] ++ (LqW dA ln gq ++ (LqW dA lt gr ++ (ws))))) from List.Perm.append_left ([(q0, .inl (dA 1, (2 * g.sz) + 2, .inl (va_up (va_cpy fk (fun _ => 0) 0 0 (min kN ((2 * g.sz) + 2))) g.sz z)))]) (List.Perm.append_left ([(sp, .inr (13, [.int kd, .int (nI pl), .long nu, .ref na, .int (nI nn), .ref ln, .ref lt, .ref q0]))]) (List.perm_append_comm_assoc (LqW dA lt gr) (LqW dA ln gq) (ws)))) hP
  have hD := pmD (show List.Perm (α := Nat × va_E) ([(q0, .inl (dA 1, (2 * g.sz) + 2, .inl (va_up (va_cpy fk (fun _ => 0) 0 0 (min kN ((2 * g.sz) + 2))) g.sz z)))] ++ ([(sp, .inr (13, [.int kd, .int (nI pl), .long nu, .ref na, .int (nI nn), .ref ln, .ref lt, .ref q0]))] ++ (LqW dA lt gr ++ (LqW dA ln gq ++ (ws))))) ([(q0, .inl (dA 1, (2 * g.sz) + 2, .inl (va_up (va_cpy fk (fun _ => 0) 0 0 (min kN ((2 * g.sz) + 2))) g.sz z)))] ++ ([(sp, .inr (13, [.int kd, .int (nI pl), .long nu, .ref na, .int (nI nn), .ref ln, .ref lt, .ref q0]))] ++ (LqW dA ln gq ++ (LqW dA lt gr ++ (ws))))) from List.Perm.append_left ([(q0, .inl (dA 1, (2 * g.sz) + 2, .inl (va_up (va_cpy fk (fun _ => 0) 0 0 (min kN ((2 * g.sz) + 2))) g.sz z)))]) (List.Perm.append_left ([(sp, .inr (13, [.int kd, .int (nI pl), .long nu, .ref na, .int (nI nn), .ref ln, .ref lt, .ref q0]))]) (List.perm_append_comm_assoc (LqW dA lt gr) (LqW dA ln gq) (ws)))) hD
  exact rfV hx hb hr hlk hS (⟨gq, gr, q0⟩) ⟨f_f_6, f_f_9⟩ hP hD (show 0 + 0 + 1 + 1 + 1 ≤ 3 by omega) (show 0 + 0 + ((2 * g.sz) + 2) + (gqS g) + (gqS gb) ≤ 2 * g.sz + 2 + gqS g + gqS gb by omega) d_E_addMatch_62
end
section
/-! Matches of a function read. -/
abbrev RM : Type := Bool × TKQ × Nat × (Nat → Int32) × (Nat → List Int32) × (Nat → List Int32)
def isMk (z : Int32) : Bool := decide (z = 61) || (decide (z = 260) || (decide (z = 261) || decide (z = 262)))
theorem isMk_kd {z : Int32} (h : isMk z = true) : isKd z := by
  unfold isMk at h
  simp only [Bool.or_eq_true, decide_eq_true_eq] at h
  exact h
theorem isMk_ne {z : Int32} (h : isMk z = true) : ¬ z = 256 := by
  intro e
  subst e
  exact absurd h (by decide)
/-- the text between its marks -/
def tkx (f : Nat → Int32) (t : TKQ) : List Int32 := seg f (t.2.1 + 1) (t.2.2.1 - 1)
def rmG (f : Nat → Int32) (n : Nat) : Nat → TKQ → Nat → (Nat → Int32) → (Nat → List Int32) → (Nat → List Int32) → RM
  | 0, t, k, KD, MN, MT => (false, t, k, KD, MN, MT)
  | w + 1, t, k, KD, MN, MT =>
    if ¬ t.1 = 258 then (false, rfT t 2 t.2.1, k, KD, MN, MT) else
    if isMk (nxT f n t).1 = false then (false, rfT (nxT f n t) 2 (nxT f n t).2.1, k, KD, MN, MT) else
    if ¬ (nxT f n (nxT f n t)).1 = 259 then (false, rfT (nxT f n (nxT f n t)) 2 (nxT f n (nxT f n t)).2.1, k, KD, MN, MT) else
    if ¬ (nxT f n (nxT f n (nxT f n t))).1 = 44 then (true, nxT f n (nxT f n (nxT f n t)), k + 1, va_up KD k (nxT f n t).1, va_up MN k (tkw f t), va_up MT k (tkx f (nxT f n (nxT f n t)))) else
    rmG f n w (nxT f n (nxT f n (nxT f n (nxT f n t)))) (k + 1) (va_up KD k (nxT f n t).1) (va_up MN k (tkw f t)) (va_up MT k (tkx f (nxT f n (nxT f n t))))
section RM
variable {f : Nat → Int32} {n w k : Nat} {t : TKQ} {KD : Nat → Int32} {MN MT : Nat → List Int32}
theorem rm_1 (hw : 0 < w) (h : ¬ t.1 = 258) : rmG f n w t k KD MN MT = (false, rfT t 2 t.2.1, k, KD, MN, MT) := by
  obtain ⟨d, rfl⟩ : ∃ d, w = d + 1 := ⟨w - 1, by omega⟩
  exact if_pos h
theorem rm_2 (hw : 0 < w) (h : t.1 = 258) (h2 : isMk (nxT f n t).1 = false) : rmG f n w t k KD MN MT = (false, rfT (nxT f n t) 2 (nxT f n t).2.1, k, KD, MN, MT) := by
  obtain ⟨d, rfl⟩ : ∃ d, w = d + 1 := ⟨w - 1, by omega⟩
  exact (if_neg (fun z => z h)).trans (if_pos h2)
theorem rm_3 (hw : 0 < w) (h : t.1 = 258) (h2 : isMk (nxT f n t).1 = true) (h3 : ¬ (nxT f n (nxT f n t)).1 = 259) : rmG f n w t k KD MN MT = (false, rfT (nxT f n (nxT f n t)) 2 (nxT f n (nxT f n t)).2.1, k, KD, MN, MT) := by
  obtain ⟨d, rfl⟩ : ∃ d, w = d + 1 := ⟨w - 1, by omega⟩
  exact (if_neg (fun z => z h)).trans ((if_neg (by rw [h2]; decide)).trans (if_pos h3))
theorem rm_4 (hw : 0 < w) (h : t.1 = 258) (h2 : isMk (nxT f n t).1 = true) (h3 : (nxT f n (nxT f n t)).1 = 259) (h4 : ¬ (nxT f n (nxT f n (nxT f n t))).1 = 44) : rmG f n w t k KD MN MT = (true, nxT f n (nxT f n (nxT f n t)), k + 1, va_up KD k (nxT f n t).1, va_up MN k (tkw f t), va_up MT k (tkx f (nxT f n (nxT f n t)))) := by
  obtain ⟨d, rfl⟩ : ∃ d, w = d + 1 := ⟨w - 1, by omega⟩
  exact (if_neg (fun z => z h)).trans ((if_neg (by rw [h2]; decide)).trans ((if_neg (fun z => z h3)).trans (if_pos h4)))
theorem rm_5 (hw : 0 < w) (h : t.1 = 258) (h2 : isMk (nxT f n t).1 = true) (h3 : (nxT f n (nxT f n t)).1 = 259) (h4 : (nxT f n (nxT f n (nxT f n t))).1 = 44) : rmG f n w t k KD MN MT = rmG f n (w - 1) (nxT f n (nxT f n (nxT f n (nxT f n t)))) (k + 1) (va_up KD k (nxT f n t).1) (va_up MN k (tkw f t)) (va_up MT k (tkx f (nxT f n (nxT f n t)))) := by
  obtain ⟨d, rfl⟩ : ∃ d, w = d + 1 := ⟨w - 1, by omega⟩
  exact (if_neg (fun z => z h)).trans ((if_neg (by rw [h2]; decide)).trans ((if_neg (fun z => z h3)).trans (if_neg (fun z => z h4))))
end RM
theorem rm_P {f : Nat → Int32} {n : Nat} : ∀ {w k : Nat} {t : TKQ} {KD : Nat → Int32} {MN MT : Nat → List Int32}, tkok n t → t.2.2.1 ≤ rqP (rmG f n w t k KD MN MT).1 (rmG f n w t k KD MN MT).2.1 ∧ tkok n (rmG f n w t k KD MN MT).2.1 ∧ (t.1 = 258 → 0 < w → (isMk (nxT f n t).1 = false ∨ (nxT f n (nxT f n t)).2.2.1 ≤ rqP (rmG f n w t k KD MN MT).1 (rmG f n w t k KD MN MT).2.1)) ∧ t.2.1 ≤ (rmG f n w t k KD MN MT).2.1.2.1
  | 0, k, t, KD, MN, MT, h => ⟨Nat.le_refl _, h, fun _ z => absurd z (by decide), Nat.le_refl _⟩
  | w + 1, k, t, KD, MN, MT, h => by
    have r1 := fun q => rm_1 (f := f) (n := n) (w := w + 1) (k := k) (t := t) (KD := KD) (MN := MN) (MT := MT) (by omega) q
    have r2 := fun q => rm_2 (f := f) (n := n) (w := w + 1) (k := k) (t := t) (KD := KD) (MN := MN) (MT := MT) (by omega) q
    have r3 := fun q => rm_3 (f := f) (n := n) (w := w + 1) (k := k) (t := t) (KD := KD) (MN := MN) (MT := MT) (by omega) q
    have r4 := fun q => rm_4 (f := f) (n := n) (w := w + 1) (k := k) (t := t) (KD := KD) (MN := MN) (MT := MT) (by omega) q
    have r5 := fun q => rm_5 (f := f) (n := n) (w := w + 1) (k := k) (t := t) (KD := KD) (MN := MN) (MT := MT) (by omega) q
    have a1 := nx_ok (f := f) h.2.1
    have a2 := nx_ok (f := f) a1.1.2.1
    have a3 := nx_ok (f := f) a2.1.2.1
    have a4 := nx_ok (f := f) a3.1.2.1
    have ih := fun KD' MN' MT' => rm_P (f := f) (n := n) (w := w + 1 - 1) (k := k + 1) (KD := KD') (MN := MN') (MT := MT') a4.1
    generalize nxT f n (nxT f n (nxT f n (nxT f n t))) = t4 at *
    generalize nxT f n (nxT f n (nxT f n t)) = t3 at *
    generalize nxT f n (nxT f n t) = t2 at *
    generalize nxT f n t = t1 at *
    have b0 := h.1
    have b1 := a1.1.1
    have b2 := a2.1.1
    have b3 := a3.1.1
    have b4 := a4.1.1
    have c1 := a1.2
    have c2 := a2.2
    have c3 := a3.2
    have c4 := a4.2
    by_cases h1 : t.1 = 258
    · cases h2 : isMk t1.1 with
      | false =>
        rw [r2 h1 h2]
        refine ⟨?_, rfT_ok a1.1, fun _ _ => Or.inl rfl, ?_⟩
        · show _ ≤ (rfT t1 2 t1.2.1).2.2.1
          rw [(rfT_e _ _ _).2.2]
          omega
        · show _ ≤ (rfT t1 2 t1.2.1).2.1
          rw [(rfT_e _ _ _).2.1]
          omega
      | true =>
        by_cases h3 : t2.1 = 259
        · by_cases h4 : t3.1 = 44
          · rw [r5 h1 h2 h3 h4]
            obtain ⟨i1, i2, -, i4⟩ := ih (va_up KD k t1.1) (va_up MN k (tkw f t)) (va_up MT k (tkx f t2))
            exact ⟨by omega, i2, fun _ _ => Or.inr (by omega), by omega⟩
          · rw [r4 h1 h2 h3 h4]
            refine ⟨?_, a3.1, fun _ _ => Or.inr ?_, ?_⟩
            · show _ ≤ t3.2.1
              omega
            · show _ ≤ t3.2.1
              omega
            · show _ ≤ t3.2.1
              omega
        · rw [r3 h1 h2 h3]
          refine ⟨?_, rfT_ok a2.1, fun _ _ => Or.inr ?_, ?_⟩
          · show _ ≤ (rfT t2 2 t2.2.1).2.2.1
            rw [(rfT_e _ _ _).2.2]
            omega
          · show _ ≤ (rfT t2 2 t2.2.1).2.2.1
            rw [(rfT_e _ _ _).2.2]
            exact Nat.le_refl _
          · show _ ≤ (rfT t2 2 t2.2.1).2.1
            rw [(rfT_e _ _ _).2.1]
            omega
    · rw [r1 h1]
      exact ⟨Nat.le_of_eq (rfT_e t 2 t.2.1).2.2.symm, rfT_ok h, fun z => absurd z h1, Nat.le_of_eq (rfT_e t 2 t.2.1).2.1.symm⟩
def VS.rms (x : VS) : RM := if x.tk.1 = 125 then (true, x.tk, 0, fun _ => 0, fun _ => [], fun _ => []) else rmG x.tape x.qlen x.qlen x.tk 0 (fun _ => 0) (fun _ => []) (fun _ => [])
/-- a list of words, told by its cells -/
def lwOk (dA : Nat → ClassId) (pl : va_W) (g : LI) (n : Nat) (WL : Nat → List Int32) : Prop := g.sz = n ∧ (∀ i, i < n → ∃ p : Nat, g.el i = some p ∧ isWo dA pl p (WL i) ∧ (WL i).length ≤ 65536) ∧ (∀ i : Nat, i < g.eN → ∀ y : Nat, g.el i = some y → ∃ vs : List Value, (y, .inr (10, vs)) ∈ pl)
theorem lwOk_m {dA : Nat → ClassId} {pl pl' : va_W} {g : LI} {n : Nat} {WL : Nat → List Int32} (hs : ∀ c, c ∈ pl → c ∈ pl') (h : lwOk dA pl g n WL) : lwOk dA pl' g n WL := by
  refine ⟨h.1, fun i hi => ?_, fun i hi y hy => ?_⟩
  · obtain ⟨p, a1, a2, a3⟩ := h.2.1 i hi
    exact ⟨p, a1, isWo_m hs a2, a3⟩
  · obtain ⟨vs, hv⟩ := h.2.2 i hi y hy
    exact ⟨vs, hs _ hv⟩
theorem lwOk_s {dA : Nat → ClassId} {pl : va_W} {g g' : LI} {n p : Nat} {WL : Nat → List Int32} {M : List Int32} (h : lwOk dA pl g n WL) (ha : adQ g p g') (hw : isWo dA pl p M) (hl : M.length ≤ 65536) : lwOk dA pl g' (n + 1) (va_up WL n M) := by
  obtain ⟨k1, k2, k3⟩ := h
  obtain ⟨b1, b2, b3, b4, b5, b6⟩ := ha
  subst k1
  refine ⟨b1, fun i hi => ?_, fun i hi y hy => ?_⟩
  · by_cases e : i = g.sz
    · subst e
      refine ⟨p, b4, ?_, ?_⟩
      · rw [show va_up WL g.sz M g.sz = M from if_pos rfl]; exact hw
      · rw [show va_up WL g.sz M g.sz = M from if_pos rfl]; exact hl
    · obtain ⟨q, a1, a2, a3⟩ := k2 i (by omega)
      refine ⟨q, (b3 i (by omega)).trans a1, ?_, ?_⟩
      · rw [show va_up WL g.sz M i = WL i from if_neg e]; exact a2
      · rw [show va_up WL g.sz M i = WL i from if_neg e]; exact a3
  · rcases b5 i y hi hy with e | ⟨j, e1, e2⟩
    · subst e
      obtain ⟨b, f, m1, -⟩ := hw
      exact ⟨_, m1⟩
    · exact k3 j e1 y e2
theorem lq_s {e0 v : Nat} {g g' : LI} (h : lqOk e0 g) (ha : adQ g v g') (hs : g.sz ≤ 16384) : lqOk e0 g' := by
  obtain ⟨k1, k2, k3⟩ := h
  obtain ⟨b1, b2, -, -, -, b6⟩ := ha
  refine ⟨fun z => absurd z b6, ?_, ?_⟩
  · rw [b1, b2]
    unfold gqN grN
    repeat' split
    all_goals omega
  · rw [b2]
    unfold gqN grN
    repeat' split
    all_goals omega
theorem gq_b {g : LI} {i : Nat} (h : g.sz = i) (h2 : g.sz ≤ g.eN) (h3 : g.eN ≤ 10 + 2 * i) : gqN g ≤ 10 + 2 * (i + 1) ∧ gqS g ≤ 4 * (gqN g - g.eN) ∧ g.eN ≤ gqN g ∧ gqS g ≤ 15 + 3 * i := by
  unfold gqN gqS grN
  repeat' split
  all_goals omega
theorem kd_s {fk KD : Nat → Int32} {i : Nat} {z : Int32} (h : ∀ q, q < i → fk q = KD q ∧ isKd (KD q)) (hz : isMk z = true) : ∀ q, q < i + 1 → va_up fk i z q = va_up KD i z q ∧ isKd (va_up KD i z q) := by
  intro q hq
  by_cases e : q = i
  · rw [show va_up fk i z q = z from if_pos e, show va_up KD i z q = z from if_pos e]
    exact ⟨rfl, isMk_kd hz⟩
  · rw [show va_up fk i z q = fk q from if_neg e, show va_up KD i z q = KD q from if_neg e]
    exact h q (by omega)
theorem kd_c {fk KD : Nat → Int32} {i n k : Nat} (h : ∀ q, q < i → fk q = KD q ∧ isKd (KD q)) (hi : i ≤ n) (hk : n ≤ k) : ∀ q, q < i → va_cpy fk (fun _ => 0) 0 0 (min n k) q = KD q ∧ isKd (KD q) := by
  intro q hq
  refine ⟨?_, (h q hq).2⟩
  rw [← (h q hq).1]
  unfold va_cpy
  rw [if_pos (by omega), Nat.zero_add, Nat.sub_zero]
theorem tkx_len (f : Nat → Int32) (t : TKQ) : (tkx f t).length = t.2.2.1 - 1 - (t.2.1 + 1) := seg_len _ _ _
theorem qok_ll {x : VS} {w : va_W} (h : x.qok) : (VS.s_ll x w).qok := qok_r h (qr_ll x w) h.2.2.2.2.2
theorem d_Q_readMatches_0 : decode prog_6_method_13_code 0 = .ok (.aload_n 0, 1) := by decide +kernel
theorem d_Q_readMatches_1 : decode prog_6_method_13_code 1 = .ok (.getfield 45, 3) := by decide +kernel
theorem d_Q_readMatches_4 : decode prog_6_method_13_code 4 = .ok (.bipush 125, 2) := by decide +kernel
theorem d_Q_readMatches_6 : decode prog_6_method_13_code 6 = .ok (.if_icmp .ne 5, 3) := by decide +kernel
theorem d_Q_readMatches_11 : decode prog_6_method_13_code 11 = .ok (.iconst 0, 1) := by decide +kernel
theorem d_Q_readMatches_12 : decode prog_6_method_13_code 12 = .ok (.istore_n 2, 1) := by decide +kernel
theorem d_Q_readMatches_13 : decode prog_6_method_13_code 13 = .ok (.iload_n 2, 1) := by decide +kernel
theorem d_Q_readMatches_14 : decode prog_6_method_13_code 14 = .ok (.aload_n 0, 1) := by decide +kernel
theorem d_Q_readMatches_15 : decode prog_6_method_13_code 15 = .ok (.getfield 22, 3) := by decide +kernel
theorem d_Q_readMatches_18 : decode prog_6_method_13_code 18 = .ok (.if_icmp .ge 135, 3) := by decide +kernel
theorem d_Q_readMatches_153 : decode prog_6_method_13_code 153 = .ok (.iconst 0, 1) := by decide +kernel
theorem d_Q_readMatches_154 : decode prog_6_method_13_code 154 = .ok (.ireturn, 1) := by decide +kernel
theorem d_Q_readMatches_21 : decode prog_6_method_13_code 21 = .ok (.aload_n 0, 1) := by decide +kernel
theorem d_Q_readMatches_22 : decode prog_6_method_13_code 22 = .ok (.getfield 45, 3) := by decide +kernel
theorem d_Q_readMatches_25 : decode prog_6_method_13_code 25 = .ok (.sipush 258, 3) := by decide +kernel
theorem d_Q_readMatches_28 : decode prog_6_method_13_code 28 = .ok (.if_icmp .eq 13, 3) := by decide +kernel
theorem d_Q_readMatches_41 : decode prog_6_method_13_code 41 = .ok (.aload_n 0, 1) := by decide +kernel
theorem d_Q_readMatches_42 : decode prog_6_method_13_code 42 = .ok (.invokevirtual 87, 3) := by decide +kernel
theorem d_Q_readMatches_45 : decode prog_6_method_13_code 45 = .ok (.astore_n 3, 1) := by decide +kernel
theorem d_Q_readMatches_46 : decode prog_6_method_13_code 46 = .ok (.aload_n 0, 1) := by decide +kernel
theorem d_Q_readMatches_47 : decode prog_6_method_13_code 47 = .ok (.invokevirtual 38, 3) := by decide +kernel
theorem d_Q_readMatches_50 : decode prog_6_method_13_code 50 = .ok (.aload_n 0, 1) := by decide +kernel
theorem d_Q_readMatches_51 : decode prog_6_method_13_code 51 = .ok (.getfield 45, 3) := by decide +kernel
theorem d_Q_readMatches_54 : decode prog_6_method_13_code 54 = .ok (.istore 4, 2) := by decide +kernel
theorem d_Q_readMatches_56 : decode prog_6_method_13_code 56 = .ok (.iload 4, 2) := by decide +kernel
theorem d_Q_readMatches_58 : decode prog_6_method_13_code 58 = .ok (.invokestatic 132, 3) := by decide +kernel
theorem d_Q_readMatches_61 : decode prog_6_method_13_code 61 = .ok (.ifCond .ne 13, 3) := by decide +kernel
theorem d_Q_readMatches_74 : decode prog_6_method_13_code 74 = .ok (.aload_n 0, 1) := by decide +kernel
theorem d_Q_readMatches_75 : decode prog_6_method_13_code 75 = .ok (.invokevirtual 38, 3) := by decide +kernel
theorem d_Q_readMatches_78 : decode prog_6_method_13_code 78 = .ok (.aload_n 0, 1) := by decide +kernel
theorem d_Q_readMatches_79 : decode prog_6_method_13_code 79 = .ok (.getfield 45, 3) := by decide +kernel
theorem d_Q_readMatches_82 : decode prog_6_method_13_code 82 = .ok (.sipush 259, 3) := by decide +kernel
theorem d_Q_readMatches_85 : decode prog_6_method_13_code 85 = .ok (.if_icmp .eq 13, 3) := by decide +kernel
theorem d_Q_readMatches_98 : decode prog_6_method_13_code 98 = .ok (.aload_n 1, 1) := by decide +kernel
theorem d_Q_readMatches_99 : decode prog_6_method_13_code 99 = .ok (.iload 4, 2) := by decide +kernel
theorem d_Q_readMatches_101 : decode prog_6_method_13_code 101 = .ok (.aload_n 3, 1) := by decide +kernel
theorem d_Q_readMatches_102 : decode prog_6_method_13_code 102 = .ok (.new 98, 3) := by decide +kernel
theorem d_Q_readMatches_105 : decode prog_6_method_13_code 105 = .ok (.dup, 1) := by decide +kernel
theorem d_Q_readMatches_106 : decode prog_6_method_13_code 106 = .ok (.aload_n 0, 1) := by decide +kernel
theorem d_Q_readMatches_107 : decode prog_6_method_13_code 107 = .ok (.getfield 9, 3) := by decide +kernel
theorem d_Q_readMatches_110 : decode prog_6_method_13_code 110 = .ok (.aload_n 0, 1) := by decide +kernel
theorem d_Q_readMatches_111 : decode prog_6_method_13_code 111 = .ok (.getfield 48, 3) := by decide +kernel
theorem d_Q_readMatches_114 : decode prog_6_method_13_code 114 = .ok (.iconst 1, 1) := by decide +kernel
theorem d_Q_readMatches_115 : decode prog_6_method_13_code 115 = .ok (.iadd, 1) := by decide +kernel
theorem d_Q_readMatches_116 : decode prog_6_method_13_code 116 = .ok (.aload_n 0, 1) := by decide +kernel
theorem d_Q_readMatches_117 : decode prog_6_method_13_code 117 = .ok (.getfield 32, 3) := by decide +kernel
theorem d_Q_readMatches_120 : decode prog_6_method_13_code 120 = .ok (.iconst 1, 1) := by decide +kernel
theorem d_Q_readMatches_121 : decode prog_6_method_13_code 121 = .ok (.isub, 1) := by decide +kernel
theorem d_Q_readMatches_122 : decode prog_6_method_13_code 122 = .ok (.invokespecial 135, 3) := by decide +kernel
theorem d_Q_readMatches_125 : decode prog_6_method_13_code 125 = .ok (.invokevirtual 138, 3) := by decide +kernel
theorem d_Q_readMatches_128 : decode prog_6_method_13_code 128 = .ok (.aload_n 0, 1) := by decide +kernel
theorem d_Q_readMatches_129 : decode prog_6_method_13_code 129 = .ok (.invokevirtual 38, 3) := by decide +kernel
theorem d_Q_readMatches_132 : decode prog_6_method_13_code 132 = .ok (.aload_n 0, 1) := by decide +kernel
theorem d_Q_readMatches_133 : decode prog_6_method_13_code 133 = .ok (.getfield 45, 3) := by decide +kernel
theorem d_Q_readMatches_136 : decode prog_6_method_13_code 136 = .ok (.bipush 44, 2) := by decide +kernel
theorem d_Q_readMatches_138 : decode prog_6_method_13_code 138 = .ok (.if_icmp .eq 5, 3) := by decide +kernel
theorem d_Q_readMatches_143 : decode prog_6_method_13_code 143 = .ok (.aload_n 0, 1) := by decide +kernel
theorem d_Q_readMatches_144 : decode prog_6_method_13_code 144 = .ok (.invokevirtual 38, 3) := by decide +kernel
theorem d_Q_readMatches_147 : decode prog_6_method_13_code 147 = .ok (.iinc 2 1, 3) := by decide +kernel
theorem d_Q_readMatches_150 : decode prog_6_method_13_code 150 = .ok (.goto (-137), 3) := by decide +kernel
theorem d_Q_readMatches_141 : decode prog_6_method_13_code 141 = .ok (.iconst 1, 1) := by decide +kernel
theorem d_Q_readMatches_142 : decode prog_6_method_13_code 142 = .ok (.ireturn, 1) := by decide +kernel
theorem d_Q_readMatches_88 : decode prog_6_method_13_code 88 = .ok (.aload_n 0, 1) := by decide +kernel
theorem d_Q_readMatches_89 : decode prog_6_method_13_code 89 = .ok (.iconst 2, 1) := by decide +kernel
theorem d_Q_readMatches_90 : decode prog_6_method_13_code 90 = .ok (.aload_n 0, 1) := by decide +kernel
theorem d_Q_readMatches_91 : decode prog_6_method_13_code 91 = .ok (.getfield 48, 3) := by decide +kernel
theorem d_Q_readMatches_94 : decode prog_6_method_13_code 94 = .ok (.invokevirtual 51, 3) := by decide +kernel
theorem d_Q_readMatches_97 : decode prog_6_method_13_code 97 = .ok (.ireturn, 1) := by decide +kernel
theorem d_Q_readMatches_64 : decode prog_6_method_13_code 64 = .ok (.aload_n 0, 1) := by decide +kernel
theorem d_Q_readMatches_65 : decode prog_6_method_13_code 65 = .ok (.iconst 2, 1) := by decide +kernel
theorem d_Q_readMatches_66 : decode prog_6_method_13_code 66 = .ok (.aload_n 0, 1) := by decide +kernel
theorem d_Q_readMatches_67 : decode prog_6_method_13_code 67 = .ok (.getfield 48, 3) := by decide +kernel
theorem d_Q_readMatches_70 : decode prog_6_method_13_code 70 = .ok (.invokevirtual 51, 3) := by decide +kernel
theorem d_Q_readMatches_73 : decode prog_6_method_13_code 73 = .ok (.ireturn, 1) := by decide +kernel
theorem d_Q_readMatches_31 : decode prog_6_method_13_code 31 = .ok (.aload_n 0, 1) := by decide +kernel
theorem d_Q_readMatches_32 : decode prog_6_method_13_code 32 = .ok (.iconst 2, 1) := by decide +kernel
theorem d_Q_readMatches_33 : decode prog_6_method_13_code 33 = .ok (.aload_n 0, 1) := by decide +kernel
theorem d_Q_readMatches_34 : decode prog_6_method_13_code 34 = .ok (.getfield 48, 3) := by decide +kernel
theorem d_Q_readMatches_37 : decode prog_6_method_13_code 37 = .ok (.invokevirtual 51, 3) := by decide +kernel
theorem d_Q_readMatches_40 : decode prog_6_method_13_code 40 = .ok (.ireturn, 1) := by decide +kernel
theorem d_Q_readMatches_9 : decode prog_6_method_13_code 9 = .ok (.iconst 1, 1) := by decide +kernel
theorem d_Q_readMatches_10 : decode prog_6_method_13_code 10 = .ok (.ireturn, 1) := by decide +kernel
theorem w1638 : Cond.methodLink "SeriesVault$Question" 132 ⟨"SeriesVault$Question", "isOfMatch", "(I)Z"⟩ ∈ aW := aw_of (tb_7 (List.mem_of_getElem? (i := 110) rfl)) rfl
theorem w1639 : Cond.code ⟨"SeriesVault$Question", "isOfMatch", "(I)Z"⟩ prog_6_method_14_code 1 (some FieldType.boolean) ∈ aW := aw_of (tb_7 (List.mem_of_getElem? (i := 112) rfl)) rfl
theorem w1640 : Cond.static ⟨"SeriesVault$Question", "isOfMatch", "(I)Z"⟩ ∈ aW := aw_of (tb_7 (List.mem_of_getElem? (i := 111) rfl)) rfl
theorem w1641 : Cond.methodLink "SeriesVault$Question" 138 ⟨"SeriesVault$Step", "addMatch", "(ILSeriesVault$Word;LSeriesVault$Word;)V"⟩ ∈ aW := aw_of (tb_7 (List.mem_of_getElem? (i := 113) rfl)) rfl
theorem w1642 : Cond.code ⟨"SeriesVault$Step", "addMatch", "(ILSeriesVault$Word;LSeriesVault$Word;)V"⟩ prog_10_method_4_code 5 none ∈ aW := aw_of (tb_7 (List.mem_of_getElem? (i := 116) rfl)) rfl
theorem w1643 : Cond.instanceMethod ⟨"SeriesVault$Step", "addMatch", "(ILSeriesVault$Word;LSeriesVault$Word;)V"⟩ ∈ aW := aw_of (tb_7 (List.mem_of_getElem? (i := 114) rfl)) rfl
theorem w1644 : Cond.selects "SeriesVault$Step" ⟨"SeriesVault$Step", "addMatch", "(ILSeriesVault$Word;LSeriesVault$Word;)V"⟩ ⟨"SeriesVault$Step", "addMatch", "(ILSeriesVault$Word;LSeriesVault$Word;)V"⟩ ∈ aW := aw_of (tb_7 (List.mem_of_getElem? (i := 115) rfl)) rfl
set_option maxHeartbeats 4000000 in
set_option maxRecDepth 100000 in
theorem v_QreadMatches (l : Launch) (D : va_G) (dA : Nat → ClassId) (sz : Nat) (e0 mi : Nat) (h : Nat) (ad : Nat → Nat) (sp : Nat) (kd : Int32) (pl : Nat) (nu : Int64) (na : Nat) (ln : Nat) (lt : Nat) (mk : Nat) (nn : Nat) (gA : LI) (gB : LI) (r : va_W) (x : VS) (hk : x.qok) (hll : x.ll = LqW dA ln gA ++ (LqW dA lt gB ++ r)) (lg0 : lqOk e0 gA) (lg1 : lqOk e0 gB) (hz : gA.eN = 0 ∧ gB.eN = 0) : Met l ⟨"SeriesVault$Question", "readMatches", "(LSeriesVault$Step;)Z"⟩ [Cond.code ⟨"SeriesVault$Question", "readMatches", "(LSeriesVault$Step;)Z"⟩ prog_6_method_13_code 5 (some FieldType.boolean)] { frames := 8, cells := 4 * (rqP x.rms.1 x.rms.2.1 - x.qst), slots := 12 * (rqP x.rms.1 x.rms.2.1 - x.qst) + 130, locals := 195 } (pCy D dA e0 mi [.ref (ad 22), .ref sp] ([(sp, .inr (13, [.int kd, .int (nI pl), .long nu, .ref na, .int (nI nn), .ref ln, .ref lt, .ref mk]))] ++ ([(mk, .inl (dA 1, 2, .inl (fun _ => 0)))] ++ (VW dA h ad x))) sz) (va_Qi (fun (r9 : Int32) (u9 : VS × Nat × Nat × (Nat → Int32) × LI × LI) => r9 = bI x.rms.1 ∧ x.qr u9.1 ∧ u9.1.qok ∧ u9.1.tk = x.rms.2.1 ∧ u9.1.ll = LqW dA ln u9.2.2.2.2.1 ++ (LqW dA lt u9.2.2.2.2.2 ++ r) ∧ (lqOk e0 u9.2.2.2.2.1 ∧ lqOk e0 u9.2.2.2.2.2) ∧ (lwOk dA u9.1.pl u9.2.2.2.2.1 x.rms.2.2.1 x.rms.2.2.2.2.1 ∧ lwOk dA u9.1.pl u9.2.2.2.2.2 x.rms.2.2.1 x.rms.2.2.2.2.2) ∧ (∀ q, q < x.rms.2.2.1 → u9.2.2.2.1 q = x.rms.2.2.2.1 q ∧ isKd (x.rms.2.2.2.1 q)) ∧ (x.rms.2.2.1 ≤ u9.2.2.1 ∧ u9.2.2.1 ≤ 262144)) (fun (u9 : VS × Nat × Nat × (Nat → Int32) × LI × LI) t9 => bW D (va_A ([(sp, .inr (13, [.int kd, .int (nI pl), .long nu, .ref na, .int (nI nn), .ref ln, .ref lt, .ref mk]))] ++ ([(mk, .inl (dA 1, 2, .inl (fun _ => 0)))] ++ (VW dA h ad x))) sz) ([(u9.2.1, .inl (dA 1, u9.2.2.1, .inl u9.2.2.2.1))] ++ ([(sp, .inr (13, [.int kd, .int (nI pl), .long nu, .ref na, .int (nI nn), .ref ln, .ref lt, .ref u9.2.1]))] ++ (VW dA h ad u9.1))) t9) (va_A ([(sp, .inr (13, [.int kd, .int (nI pl), .long nu, .ref na, .int (nI nn), .ref ln, .ref lt, .ref mk]))] ++ ([(mk, .inl (dA 1, 2, .inl (fun _ => 0)))] ++ (VW dA h ad x))) sz)) (4 * (rqP x.rms.1 x.rms.2.1 - x.qst)) (12 * (rqP x.rms.1 x.rms.2.1 - x.qst) + 130) (va_A ([(sp, .inr (13, [.int kd, .int (nI pl), .long nu, .ref na, .int (nI nn), .ref ln, .ref lt, .ref mk]))] ++ ([(mk, .inl (dA 1, 2, .inl (fun _ => 0)))] ++ (VW dA h ad x))) sz) := by
  refine mkY (y := ⟨"SeriesVault$Question", "readMatches", "(LSeriesVault$Step;)Z"⟩) (cc := prog_6_method_13_code) (maxL := 5) (av := [.ref (ad 22), .ref sp]) (ws := [(sp, .inr (13, [.int kd, .int (nI pl), .long nu, .ref na, .int (nI nn), .ref ln, .ref lt, .ref mk]))] ++ ([(mk, .inl (dA 1, 2, .inl (fun _ => 0)))] ++ (VW dA h ad x))) (sz := sz) (Qc := fun A => va_Qi (fun (r9 : Int32) (u9 : VS × Nat × Nat × (Nat → Int32) × LI × LI) => r9 = bI x.rms.1 ∧ x.qr u9.1 ∧ u9.1.qok ∧ u9.1.tk = x.rms.2.1 ∧ u9.1.ll = LqW dA ln u9.2.2.2.2.1 ++ (LqW dA lt u9.2.2.2.2.2 ++ r) ∧ (lqOk e0 u9.2.2.2.2.1 ∧ lqOk e0 u9.2.2.2.2.2) ∧ (lwOk dA u9.1.pl u9.2.2.2.2.1 x.rms.2.2.1 x.rms.2.2.2.2.1 ∧ lwOk dA u9.1.pl u9.2.2.2.2.2 x.rms.2.2.1 x.rms.2.2.2.2.2) ∧ (∀ q, q < x.rms.2.2.1 → u9.2.2.2.1 q = x.rms.2.2.2.1 q ∧ isKd (x.rms.2.2.2.1 q)) ∧ (x.rms.2.2.1 ≤ u9.2.2.1 ∧ u9.2.2.1 ≤ 262144)) (fun (u9 : VS × Nat × Nat × (Nat → Int32) × LI × LI) t9 => bW D A ([(u9.2.1, .inl (dA 1, u9.2.2.1, .inl u9.2.2.2.1))] ++ ([(sp, .inr (13, [.int kd, .int (nI pl), .long nu, .ref na, .int (nI nn), .ref ln, .ref lt, .ref u9.2.1]))] ++ (VW dA h ad u9.1))) t9) A) (by decide) (Nat.le_of_ble_eq_true rfl) ?_
  intro A p e s m below meth c ls hsz hZ hT hM hB
  obtain ⟨hx, hb, hr, hml, hown, hin, hlk, hE, hK, hP, hD, hS, hA, hN, hl⟩ := hB
  have hown : s.vm.findClass "SeriesVault$Question" = some m.cls := hown
  have hl : lv_has ls 5 [(0, .ref (ad 22)), (1, .ref sp)] := hl
  obtain ⟨H, hH⟩ : ∃ z, z = s.heap := ⟨_, rfl⟩
  have hP : va_P D vwCl ([(sp, .inr (13, [.int kd, .int (nI pl), .long nu, .ref na, .int (nI nn), .ref ln, .ref lt, .ref mk]))] ++ ([(mk, .inl (dA 1, 2, .inl (fun _ => 0)))] ++ (VW dA h ad x))) H := by rw [hH]; exact hP
  have hS : va_S A s.heap H [] := by rw [hH]; exact hS
  rw [← hH]
  have kb : x.qst ≤ x.qen ∧ x.qen ≤ x.qlen ∧ x.qlen ≤ x.tpN ∧ x.tpN ≤ 131072 ∧ x.qlen ≤ 16384 := ⟨hk.2.2.2.2.2.1, hk.2.2.2.2.2.2.1, hk.2.1, hk.2.2.1, hk.2.2.2.1⟩
  have kq : x.qtp = x.tpA := hk.1
  refine lv_aload_n hx hb d_Q_readMatches_0 rfl (lv_at hl 0 rfl) ?_
  refine gF (v := .int x.qk) hx hb hown hE hK hP 38 rfl rfl layQ 2 (by decide) w663 rfl d_Q_readMatches_1 ?_
  refine lv_bipush (v := 125) hx hb d_Q_readMatches_4 (by decide) ?_
  refine lv_icmp_ne hx hb d_Q_readMatches_6 (tgt := 11) rfl (fun g1 => ?_) (fun g1 => ?_)
  · have g1 := g1
    refine lv_iconst (v := 0) hx hb d_Q_readMatches_11 (by decide) ?_
    refine lv_istore_n hx hb d_Q_readMatches_12 rfl hl (by decide) rfl (fun ls hl => ?_)
    have hl : lv_has ls 5 [(2, .int 0), (0, .ref (ad 22)), (1, .ref sp)] := hl
    have L13 : ∀ (k9 : Nat) (i : Nat) (z : VS) (mk : Nat) (kN : Nat) (fk : Nat → Int32) (gn : LI) (gt : LI) (KD : Nat → Int32) (MN : Nat → List Int32) (MT : Nat → List Int32) (hkz : z.qok) (hqz : x.qr z) (hlz : z.ll = LqW dA ln gn ++ (LqW dA lt gt ++ r)) (lg : lqOk e0 gn) (lgt : lqOk e0 gt) (wn : lwOk dA z.pl gn i MN) (wv : lwOk dA z.pl gt i MT) (hkd : ∀ q, q < i → fk q = KD q ∧ isKd (KD q)) (ck : i ≤ kN) (cn : gn.eN ≤ 10 + 2 * i) (ct : gt.eN ≤ 10 + 2 * i) (cK : kN ≤ 2 + 4 * i) (er : rmG x.tape x.qlen (x.qlen - i) z.tk i KD MN MT = x.rms) (xs : x.qst + 4 * i ≤ z.qst) (hk9 : x.qlen - i = k9), ∀ (H : Heap) (locs : List Loc) (ls : Array Slot) (hP : va_P D vwCl ([(sp, .inr (13, [.int kd, .int (nI pl), .long nu, .ref na, .int (nI nn), .ref ln, .ref lt, .ref mk]))] ++ ([(mk, .inl (dA 1, kN, .inl fk))] ++ (VW dA h ad z))) H) (hD : va_D A ([(sp, .inr (13, [.int kd, .int (nI pl), .long nu, .ref na, .int (nI nn), .ref ln, .ref lt, .ref mk]))] ++ ([(mk, .inl (dA 1, kN, .inl fk))] ++ (VW dA h ad z)))) (hS : va_S A s.heap H locs) (hl : lv_has ls 5 [(2, .int (nI i)), (0, .ref (ad 22)), (1, .ref sp)]), W p l e ({ frames := 8, cells := 4 * (rqP x.rms.1 x.rms.2.1 - x.qst), slots := 12 * (rqP x.rms.1 x.rms.2.1 - x.qst) + 130, locals := 195 } : Room) s m ([.ref (ad 22), .ref sp] : List Value).toArray below meth c H locs (4 * (z.qst - x.qst)) (2 * (z.qst - x.qst) + 4 * gn.eN + 4 * gt.eN + 2 * kN) (MQ below (va_Qi (fun (r9 : Int32) (u9 : VS × Nat × Nat × (Nat → Int32) × LI × LI) => r9 = bI x.rms.1 ∧ x.qr u9.1 ∧ u9.1.qok ∧ u9.1.tk = x.rms.2.1 ∧ u9.1.ll = LqW dA ln u9.2.2.2.2.1 ++ (LqW dA lt u9.2.2.2.2.2 ++ r) ∧ (lqOk e0 u9.2.2.2.2.1 ∧ lqOk e0 u9.2.2.2.2.2) ∧ (lwOk dA u9.1.pl u9.2.2.2.2.1 x.rms.2.2.1 x.rms.2.2.2.2.1 ∧ lwOk dA u9.1.pl u9.2.2.2.2.2 x.rms.2.2.1 x.rms.2.2.2.2.2) ∧ (∀ q, q < x.rms.2.2.1 → u9.2.2.2.1 q = x.rms.2.2.2.1 q ∧ isKd (x.rms.2.2.2.1 q)) ∧ (x.rms.2.2.1 ≤ u9.2.2.1 ∧ u9.2.2.1 ≤ 262144)) (fun (u9 : VS × Nat × Nat × (Nat → Int32) × LI × LI) t9 => bW D A ([(u9.2.1, .inl (dA 1, u9.2.2.1, .inl u9.2.2.2.1))] ++ ([(sp, .inr (13, [.int kd, .int (nI pl), .long nu, .ref na, .int (nI nn), .ref ln, .ref lt, .ref u9.2.1]))] ++ (VW dA h ad u9.1))) t9) A) ([.ref (ad 22), .ref sp] : List Value).toArray s (4 * (rqP x.rms.1 x.rms.2.1 - x.qst)) (12 * (rqP x.rms.1 x.rms.2.1 - x.qst) + 130) A) (F0 m 13 ls []) := by
      intro k9
      induction k9 using Nat.strongRecOn with
      | ind k9 ih13 =>
        intro i z mk kN fk gn gt KD MN MT hkz hqz hlz lg lgt wn wv hkd ck cn ct cK er xs hk9 H locs ls hP hD hS hl
        have kz := (qr_f hqz).2.1
        have kbz : z.qst ≤ z.qen ∧ z.qen ≤ z.qlen := ⟨hkz.2.2.2.2.2.1, hkz.2.2.2.2.2.2.1⟩
        refine lv_iload_n hx hb d_Q_readMatches_13 rfl (lv_at hl 0 rfl) ?_
        refine lv_aload_n hx hb d_Q_readMatches_14 rfl (lv_at hl 1 rfl) ?_
        refine gF (v := .int (nI z.qlen)) hx hb hown hE hK hP 38 rfl rfl layQ 1 (by decide) w661 rfl d_Q_readMatches_15 ?_
        refine lv_icmp_ge hx hb d_Q_readMatches_18 (tgt := 153) rfl (fun g2 => ?_) (fun g2 => ?_)
        · have g2 := (nI_leI (a := z.qlen) (b := i) (by omega) (by omega)).mp g2
          refine lv_iconst (v := 0) hx hb d_Q_readMatches_153 (by decide) ?_
          have hP := pmP (show List.Perm (α := Nat × va_E) ([(sp, .inr (13, [.int kd, .int (nI pl), .long nu, .ref na, .int (nI nn), .ref ln, .ref lt, .ref mk]))] ++ ([(mk, .inl (dA 1, kN, .inl fk))] ++ (VW dA h ad z))) ([(mk, .inl (dA 1, kN, .inl fk))] ++ ([(sp, .inr (13, [.int kd, .int (nI pl), .long nu, .ref na, .int (nI nn), .ref ln, .ref lt, .ref mk]))] ++ (VW dA h ad z))) from List.perm_append_comm_assoc ([(sp, .inr (13, [.int kd, .int (nI pl), .long nu, .ref na, .int (nI nn), .ref ln, .ref lt, .ref mk]))]) ([(mk, .inl (dA 1, kN, .inl fk))]) (VW dA h ad z)) hP
          have hD := pmD (show List.Perm (α := Nat × va_E) ([(sp, .inr (13, [.int kd, .int (nI pl), .long nu, .ref na, .int (nI nn), .ref ln, .ref lt, .ref mk]))] ++ ([(mk, .inl (dA 1, kN, .inl fk))] ++ (VW dA h ad z))) ([(mk, .inl (dA 1, kN, .inl fk))] ++ ([(sp, .inr (13, [.int kd, .int (nI pl), .long nu, .ref na, .int (nI nn), .ref ln, .ref lt, .ref mk]))] ++ (VW dA h ad z))) from List.perm_append_comm_assoc ([(sp, .inr (13, [.int kd, .int (nI pl), .long nu, .ref na, .int (nI nn), .ref ln, .ref lt, .ref mk]))]) ([(mk, .inl (dA 1, kN, .inl fk))]) (VW dA h ad z)) hD
          exact rfZ hx hb hr (bI_nar false) hlk hS (⟨z, mk, kN, fk, gn, gt⟩) (by have E := (show x.rms = (false, z.tk, i, KD, MN, MT) by rw [← er, show x.qlen - i = 0 by have := (qr_f hqz).2.1; omega]; rfl); have F1 : x.rms.1 = false := (by rw [E]); have F2 : x.rms.2.1 = z.tk := (by rw [E]); have F3 : x.rms.2.2.1 = i := (by rw [E]); have F4 : x.rms.2.2.2.1 = KD := (by rw [E]); have F5 : x.rms.2.2.2.2.1 = MN := (by rw [E]); have F6 : x.rms.2.2.2.2.2 = MT := (by rw [E]); exact ⟨by rw [F1]; rfl, hqz, hkz, by rw [F2], hlz, ⟨lg, lgt⟩, by rw [F3, F5, F6]; exact ⟨wn, wv⟩, by rw [F3, F4]; exact hkd, by rw [F3]; exact ⟨ck, show kN ≤ 262144 by omega⟩⟩) hP hD (show 4 * (z.qst - x.qst) ≤ 4 * (rqP x.rms.1 x.rms.2.1 - x.qst) by omega) (show 2 * (z.qst - x.qst) + 4 * gn.eN + 4 * gt.eN + 2 * kN ≤ 12 * (rqP x.rms.1 x.rms.2.1 - x.qst) + 130 by omega) d_Q_readMatches_154
        · have g2 := mt (nI_leI (a := z.qlen) (b := i) (by omega) (by omega)).mpr g2
          refine lv_aload_n hx hb d_Q_readMatches_21 rfl (lv_at hl 1 rfl) ?_
          have kb_z : z.qst ≤ z.qen ∧ z.qen ≤ z.qlen ∧ z.qlen ≤ z.tpN ∧ z.tpN ≤ 131072 ∧ z.qlen ≤ 16384 := ⟨hkz.2.2.2.2.2.1, hkz.2.2.2.2.2.2.1, hkz.2.1, hkz.2.2.1, hkz.2.2.2.1⟩
          have kq_z : z.qtp = z.tpA := hkz.1
          have kf_z : z.tape = x.tape ∧ z.qlen = x.qlen := ⟨(qr_f hqz).2.2.1, (qr_f hqz).2.1⟩
          have tz : tkok x.qlen z.tk := by rw [← kf_z.2]; exact hkz.2.2.2.2.2
          have p0 := rm_P (f := x.tape) (w := x.qlen - i) (k := i) (KD := KD) (MN := MN) (MT := MT) tz
          rw [er] at p0
          have p9 : z.qen ≤ rqP x.rms.1 x.rms.2.1 := p0.1
          have p8 : ¬ z.qk = 256 → z.qst < z.qen := hkz.2.2.2.2.2.2.2.1
          refine gF (v := .int z.qk) hx hb hown hE hK hP 38 rfl rfl layQ 2 (by decide) w663 rfl d_Q_readMatches_22 ?_
          refine lv_sipush (v := 258) hx hb d_Q_readMatches_25 (by decide) ?_
          refine lv_icmp_eq hx hb d_Q_readMatches_28 (tgt := 41) rfl (fun g3 => ?_) (fun g3 => ?_)
          · have g3 := g3
            refine lv_aload_n hx hb d_Q_readMatches_41 rfl (lv_at hl 1 rfl) ?_
            have p7 : z.qst < z.qen := p8 (by rw [g3]; decide)
            have hPc : va_P D vwCl (VW dA h ad z) H := spP (wr := [(sp, .inr (13, [.int kd, .int (nI pl), .long nu, .ref na, .int (nI nn), .ref ln, .ref lt, .ref mk]))] ++ ([(mk, .inl (dA 1, kN, .inl fk))])) hP
            have hDc : va_D A (VW dA h ad z) := spD (wr := [(sp, .inr (13, [.int kd, .int (nI pl), .long nu, .ref na, .int (nI nn), .ref ln, .ref lt, .ref mk]))] ++ ([(mk, .inl (dA 1, kN, .inl fk))])) hD
            refine jkR (wr := [(sp, .inr (13, [.int kd, .int (nI pl), .long nu, .ref na, .int (nI nn), .ref ln, .ref lt, .ref mk]))] ++ ([(mk, .inl (dA 1, kN, .inl fk))])) (rnV (As := []) (rest := []) hx hb hml hown hE hK (hN _ _ hS) hPc hDc (v_QtokenWord l D dA H.size h ad z hkz) (q0 := 36) rfl rfl w1626 w1625 w1627 w1628 w665 rfl rfl ⟨⟨by decide, by decide⟩, rfl⟩ ⟨(Nat.le_of_ble_eq_true rfl), (Nat.le_of_ble_eq_true rfl)⟩ rfl hl.1 rfl (Nat.le_of_ble_eq_true rfl) d_Q_readMatches_42 ⟨(show 4 * (z.qst - x.qst) + 2 ≤ 4 * (rqP x.rms.1 x.rms.2.1 - x.qst) by omega), (show 2 * (z.qst - x.qst) + 4 * gn.eN + 4 * gt.eN + 2 * kN + (1 + (z.qen - z.qst)) ≤ 12 * (rqP x.rms.1 x.rms.2.1 - x.qst) + 130 by omega)⟩) hP hD hS hA (fun u4 wq H locs hp9 hP hD hS => ?_)
            obtain ⟨z1, h9u⟩ : ∃ z9, z9 = u4 := ⟨_, rfl⟩
            subst h9u
            have hP : va_P D vwCl ([(sp, .inr (13, [.int kd, .int (nI pl), .long nu, .ref na, .int (nI nn), .ref ln, .ref lt, .ref mk]))] ++ ([(mk, .inl (dA 1, kN, .inl fk))] ++ (VW dA h ad z1))) H := hP
            have hD : va_D A ([(sp, .inr (13, [.int kd, .int (nI pl), .long nu, .ref na, .int (nI nn), .ref ln, .ref lt, .ref mk]))] ++ ([(mk, .inl (dA 1, kN, .inl fk))] ++ (VW dA h ad z1))) := hD
            obtain ⟨f_k_5, f_w_6⟩ := hp9
            refine lv_astore_n hx hb d_Q_readMatches_45 rfl hl (by decide) rfl (fun ls hl => ?_)
            have hl : lv_has ls 5 [(3, .ref wq), (2, .int (nI i)), (0, .ref (ad 22)), (1, .ref sp)] := hl
            refine lv_aload_n hx hb d_Q_readMatches_46 rfl (lv_at hl 2 rfl) ?_
            obtain ⟨hk_z1, qq_z1, tk_z1⟩ := qok_pk hkz f_k_5
            have qp_z1 := qr_tr hqz (qp_qr qq_z1)
            have ml_z1 : z1.ll = z.ll := qp_ll qq_z1
            have tt_z1 : z1.tk = z.tk := by rw [tk_z1]
            have kb_z1 : z1.qst ≤ z1.qen ∧ z1.qen ≤ z1.qlen ∧ z1.qlen ≤ z1.tpN ∧ z1.tpN ≤ 131072 ∧ z1.qlen ≤ 16384 := ⟨hk_z1.2.2.2.2.2.1, hk_z1.2.2.2.2.2.2.1, hk_z1.2.1, hk_z1.2.2.1, hk_z1.2.2.2.1⟩
            have kq_z1 : z1.qtp = z1.tpA := hk_z1.1
            have kf_z1 : z1.tape = x.tape ∧ z1.qlen = x.qlen := ⟨(qr_f qp_z1).2.2.1, (qr_f qp_z1).2.1⟩
            have w9 : isWo dA z1.pl wq (tkw x.tape z.tk) := by rw [← kf_z.1]; exact f_w_6
            have l9 : (tkw x.tape z.tk).length ≤ 65536 := by unfold tkw; rw [seg_len]; show z.qen - z.qst ≤ 65536; omega
            have sz1 : z1.qst = z.qst ∧ z1.qen = z.qen := ⟨congrArg (fun q : TKQ => q.2.1) tk_z1, congrArg (fun q : TKQ => q.2.2.1) tk_z1⟩
            have hPc : va_P D vwCl (VW dA h ad z1) H := spP (wr := [(sp, .inr (13, [.int kd, .int (nI pl), .long nu, .ref na, .int (nI nn), .ref ln, .ref lt, .ref mk]))] ++ ([(mk, .inl (dA 1, kN, .inl fk))])) hP
            have hDc : va_D A (VW dA h ad z1) := spD (wr := [(sp, .inr (13, [.int kd, .int (nI pl), .long nu, .ref na, .int (nI nn), .ref ln, .ref lt, .ref mk]))] ++ ([(mk, .inl (dA 1, kN, .inl fk))])) hD
            refine jkV (wr := [(sp, .inr (13, [.int kd, .int (nI pl), .long nu, .ref na, .int (nI nn), .ref ln, .ref lt, .ref mk]))] ++ ([(mk, .inl (dA 1, kN, .inl fk))])) (rnV (As := []) (rest := []) hx hb hml hown hE hK (hN _ _ hS) hPc hDc (v_Qadvance l D dA H.size h ad z1 kq_z1 (show z1.qlen ≤ z1.tpN from by omega) (show z1.tpN ≤ 131072 from by omega) (show z1.qen ≤ z1.qlen from by omega)) (q0 := 36) rfl rfl w685 w684 w686 w687 w665 rfl rfl ⟨⟨by decide, by decide⟩, rfl⟩ ⟨(Nat.le_of_ble_eq_true rfl), (Nat.le_of_ble_eq_true rfl)⟩ rfl hl.1 rfl (Nat.le_of_ble_eq_true rfl) d_Q_readMatches_47 ⟨(show 4 * (z.qst - x.qst) + 2 + 0 ≤ 4 * (rqP x.rms.1 x.rms.2.1 - x.qst) by omega), (show 2 * (z.qst - x.qst) + 4 * gn.eN + 4 * gt.eN + 2 * kN + (1 + (z.qen - z.qst)) + 0 ≤ 12 * (rqP x.rms.1 x.rms.2.1 - x.qst) + 130 by omega)⟩) hP hD hS hA (fun u8 H locs hp9 hP hD hS => ?_)
            obtain ⟨z2, h9u⟩ : ∃ z9, z9 = u8 := ⟨_, rfl⟩
            subst h9u
            have hP : va_P D vwCl ([(sp, .inr (13, [.int kd, .int (nI pl), .long nu, .ref na, .int (nI nn), .ref ln, .ref lt, .ref mk]))] ++ ([(mk, .inl (dA 1, kN, .inl fk))] ++ (VW dA h ad z2))) H := hP
            have hD : va_D A ([(sp, .inr (13, [.int kd, .int (nI pl), .long nu, .ref na, .int (nI nn), .ref ln, .ref lt, .ref mk]))] ++ ([(mk, .inl (dA 1, kN, .inl fk))] ++ (VW dA h ad z2))) := hD
            have f_e_9 := hp9
            refine lv_aload_n hx hb d_Q_readMatches_50 rfl (lv_at hl 2 rfl) ?_
            obtain ⟨hk_z2, qq_z2, tk_z2⟩ := qok_adv hk_z1 f_e_9
            have qp_z2 := qr_tr qp_z1 (qp_qr qq_z2)
            have ml_z2 : z2.ll = z1.ll := qp_ll qq_z2
            have tt_z2 : z2.tk = nxT x.tape x.qlen z.tk := by rw [tk_z2, kf_z1.1, kf_z1.2, tt_z1]
            have kb_z2 : z2.qst ≤ z2.qen ∧ z2.qen ≤ z2.qlen ∧ z2.qlen ≤ z2.tpN ∧ z2.tpN ≤ 131072 ∧ z2.qlen ≤ 16384 := ⟨hk_z2.2.2.2.2.2.1, hk_z2.2.2.2.2.2.2.1, hk_z2.2.1, hk_z2.2.2.1, hk_z2.2.2.2.1⟩
            have kq_z2 : z2.qtp = z2.tpA := hk_z2.1
            have kf_z2 : z2.tape = x.tape ∧ z2.qlen = x.qlen := ⟨(qr_f qp_z2).2.2.1, (qr_f qp_z2).2.1⟩
            have st_z2 : z1.qen ≤ z2.qst := by have e9 := (nx_ok (f := z1.tape) (n := z1.qlen) (t := z1.tk) hk_z1.2.2.2.2.2.2.1).2; rw [← tk_z2] at e9; exact e9
            refine gF (v := .int z2.qk) hx hb hown hE hK hP 38 rfl rfl layQ 2 (by decide) w663 rfl d_Q_readMatches_51 ?_
            refine lv_istore hx hb d_Q_readMatches_54 hl (by decide) rfl (fun ls hl => ?_)
            have hl : lv_has ls 5 [(4, .int z2.qk), (3, .ref wq), (2, .int (nI i)), (0, .ref (ad 22)), (1, .ref sp)] := hl
            refine lv_iload hx hb d_Q_readMatches_56 (lv_at hl 0 rfl) ?_
            have hPc := hP.sub (ws' := []) [] rfl
            have hDc := hD.sub (ws' := []) [] (by decide) rfl
            refine jpI (rnS (As := [.int z2.qk]) (rest := []) hx hb hml hown hE hK (hN _ _ hS) hPc hDc (v_QisOfMatch l D dA H.size z2.qk) w1639 w1638 w1640 w665 rfl rfl ⟨⟨by decide, by decide⟩, rfl⟩ ⟨(Nat.le_of_ble_eq_true rfl), (Nat.le_of_ble_eq_true rfl)⟩ rfl hl.1 rfl (Nat.le_of_ble_eq_true rfl) d_Q_readMatches_58 ⟨(show 4 * (z.qst - x.qst) + 2 + 0 + 0 ≤ 4 * (rqP x.rms.1 x.rms.2.1 - x.qst) by omega), (show 2 * (z.qst - x.qst) + 4 * gn.eN + 4 * gt.eN + 2 * kN + (1 + (z.qen - z.qst)) + 0 + 0 ≤ 12 * (rqP x.rms.1 x.rms.2.1 - x.qst) + 130 by omega)⟩) hP hD hS hA (fun r10 u9 H locs hp9 hP hD hS => ?_)
            have hP : va_P D vwCl ([(sp, .inr (13, [.int kd, .int (nI pl), .long nu, .ref na, .int (nI nn), .ref ln, .ref lt, .ref mk]))] ++ ([(mk, .inl (dA 1, kN, .inl fk))] ++ (VW dA h ad z2))) H := hP
            have hD : va_D A ([(sp, .inr (13, [.int kd, .int (nI pl), .long nu, .ref na, .int (nI nn), .ref ln, .ref lt, .ref mk]))] ++ ([(mk, .inl (dA 1, kN, .inl fk))] ++ (VW dA h ad z2))) := hD
            replace hp9 : bI (decide (z2.qk = 61) || (decide (z2.qk = 260) || (decide (z2.qk = 261) || decide (z2.qk = 262)))) = r10 := Eq.symm hp9
            subst hp9
            refine lv_if_ne hx hb d_Q_readMatches_61 (tgt := 74) rfl (fun g12 => ?_) (fun g12 => ?_)
            · have g12 := bI_n0 g12
              refine lv_aload_n hx hb d_Q_readMatches_74 rfl (lv_at hl 3 rfl) ?_
              have hPc : va_P D vwCl (VW dA h ad z2) H := spP (wr := [(sp, .inr (13, [.int kd, .int (nI pl), .long nu, .ref na, .int (nI nn), .ref ln, .ref lt, .ref mk]))] ++ ([(mk, .inl (dA 1, kN, .inl fk))])) hP
              have hDc : va_D A (VW dA h ad z2) := spD (wr := [(sp, .inr (13, [.int kd, .int (nI pl), .long nu, .ref na, .int (nI nn), .ref ln, .ref lt, .ref mk]))] ++ ([(mk, .inl (dA 1, kN, .inl fk))])) hD
              refine jkV (wr := [(sp, .inr (13, [.int kd, .int (nI pl), .long nu, .ref na, .int (nI nn), .ref ln, .ref lt, .ref mk]))] ++ ([(mk, .inl (dA 1, kN, .inl fk))])) (rnV (As := []) (rest := []) hx hb hml hown hE hK (hN _ _ hS) hPc hDc (v_Qadvance l D dA H.size h ad z2 kq_z2 (show z2.qlen ≤ z2.tpN from by omega) (show z2.tpN ≤ 131072 from by omega) (show z2.qen ≤ z2.qlen from by omega)) (q0 := 36) rfl rfl w685 w684 w686 w687 w665 rfl rfl ⟨⟨by decide, by decide⟩, rfl⟩ ⟨(Nat.le_of_ble_eq_true rfl), (Nat.le_of_ble_eq_true rfl)⟩ rfl hl.1 rfl (Nat.le_of_ble_eq_true rfl) d_Q_readMatches_75 ⟨(show 4 * (z.qst - x.qst) + 2 + 0 + 0 + 0 ≤ 4 * (rqP x.rms.1 x.rms.2.1 - x.qst) by omega), (show 2 * (z.qst - x.qst) + 4 * gn.eN + 4 * gt.eN + 2 * kN + (1 + (z.qen - z.qst)) + 0 + 0 + 0 ≤ 12 * (rqP x.rms.1 x.rms.2.1 - x.qst) + 130 by omega)⟩) hP hD hS hA (fun u14 H locs hp9 hP hD hS => ?_)
              obtain ⟨z3, h9u⟩ : ∃ z9, z9 = u14 := ⟨_, rfl⟩
              subst h9u
              have hP : va_P D vwCl ([(sp, .inr (13, [.int kd, .int (nI pl), .long nu, .ref na, .int (nI nn), .ref ln, .ref lt, .ref mk]))] ++ ([(mk, .inl (dA 1, kN, .inl fk))] ++ (VW dA h ad z3))) H := hP
              have hD : va_D A ([(sp, .inr (13, [.int kd, .int (nI pl), .long nu, .ref na, .int (nI nn), .ref ln, .ref lt, .ref mk]))] ++ ([(mk, .inl (dA 1, kN, .inl fk))] ++ (VW dA h ad z3))) := hD
              have f_e_15 := hp9
              refine lv_aload_n hx hb d_Q_readMatches_78 rfl (lv_at hl 3 rfl) ?_
              obtain ⟨hk_z3, qq_z3, tk_z3⟩ := qok_adv hk_z2 f_e_15
              have qp_z3 := qr_tr qp_z2 (qp_qr qq_z3)
              have ml_z3 : z3.ll = z2.ll := qp_ll qq_z3
              have tt_z3 : z3.tk = nxT x.tape x.qlen (nxT x.tape x.qlen z.tk) := by rw [tk_z3, kf_z2.1, kf_z2.2, tt_z2]
              have kb_z3 : z3.qst ≤ z3.qen ∧ z3.qen ≤ z3.qlen ∧ z3.qlen ≤ z3.tpN ∧ z3.tpN ≤ 131072 ∧ z3.qlen ≤ 16384 := ⟨hk_z3.2.2.2.2.2.1, hk_z3.2.2.2.2.2.2.1, hk_z3.2.1, hk_z3.2.2.1, hk_z3.2.2.2.1⟩
              have kq_z3 : z3.qtp = z3.tpA := hk_z3.1
              have kf_z3 : z3.tape = x.tape ∧ z3.qlen = x.qlen := ⟨(qr_f qp_z3).2.2.1, (qr_f qp_z3).2.1⟩
              have st_z3 : z2.qen ≤ z3.qst := by have e9 := (nx_ok (f := z2.tape) (n := z2.qlen) (t := z2.tk) hk_z2.2.2.2.2.2.2.1).2; rw [← tk_z3] at e9; exact e9
              have k259 : z3.qk = 259 → z3.qst + 2 ≤ z3.qen := hk_z3.2.2.2.2.2.2.2.2
              have p4 : z2.qst < z2.qen := hk_z2.2.2.2.2.2.2.2.1 (isMk_ne g12)
              have im : isMk (nxT x.tape x.qlen z.tk).1 = true := by rw [← tt_z2]; exact g12
              have p6 : z3.qen ≤ rqP x.rms.1 x.rms.2.1 := by have e9 := (p0.2.2.1 g3 (by omega)).resolve_left (by rw [im]; decide); rw [← tt_z3] at e9; exact e9
              refine gF (v := .int z3.qk) hx hb hown hE hK hP 38 rfl rfl layQ 2 (by decide) w663 rfl d_Q_readMatches_79 ?_
              refine lv_sipush (v := 259) hx hb d_Q_readMatches_82 (by decide) ?_
              refine lv_icmp_eq hx hb d_Q_readMatches_85 (tgt := 98) rfl (fun g16 => ?_) (fun g16 => ?_)
              · have g16 := g16
                refine lv_aload_n hx hb d_Q_readMatches_98 rfl (lv_at hl 4 rfl) ?_
                refine lv_iload hx hb d_Q_readMatches_99 (lv_at hl 0 rfl) ?_
                refine lv_aload_n hx hb d_Q_readMatches_101 rfl (lv_at hl 1 rfl) ?_
                have p5 : z3.qst + 2 ≤ z3.qen := k259 g16
                refine nOf hx hb hown hE hK hP hD hS hA (ci := 10) rfl layW tyW tokW w1623 w856 w1281 (fs := [.null]) dfW (show (4 * (z.qst - x.qst) + 2 + 0 + 0 + 0) + 1 ≤ 4 * (rqP x.rms.1 x.rms.2.1 - x.qst) by omega) (show (2 * (z.qst - x.qst) + 4 * gn.eN + 4 * gt.eN + 2 * kN + (1 + (z.qen - z.qst)) + 0 + 0 + 0) + 1 ≤ 12 * (rqP x.rms.1 x.rms.2.1 - x.qst) + 130 by omega) d_Q_readMatches_102 (fun wx H hP hD hS => ?_)
                have hP : va_P D vwCl ([(wx, .inr (10, [.null]))] ++ ([(sp, .inr (13, [.int kd, .int (nI pl), .long nu, .ref na, .int (nI nn), .ref ln, .ref lt, .ref mk]))] ++ ([(mk, .inl (dA 1, kN, .inl fk))] ++ (VW dA h ad z3)))) H := hP
                have hD : va_D A ([(wx, .inr (10, [.null]))] ++ ([(sp, .inr (13, [.int kd, .int (nI pl), .long nu, .ref na, .int (nI nn), .ref ln, .ref lt, .ref mk]))] ++ ([(mk, .inl (dA 1, kN, .inl fk))] ++ (VW dA h ad z3)))) := hD
                refine lv_dup hx hb d_Q_readMatches_105 rfl ?_
                refine lv_aload_n hx hb d_Q_readMatches_106 rfl (lv_at hl 3 rfl) ?_
                refine gF (v := .ref z3.qtp) hx hb hown hE hK hP 39 rfl rfl layQ 0 (by decide) w677 rfl d_Q_readMatches_107 ?_
                rw [kq_z3]
                refine lv_aload_n hx hb d_Q_readMatches_110 rfl (lv_at hl 3 rfl) ?_
                refine gF (v := .int (nI z3.qst)) hx hb hown hE hK hP 39 rfl rfl layQ 3 (by decide) w662 rfl d_Q_readMatches_111 ?_
                refine lv_iconst (v := 1) hx hb d_Q_readMatches_114 (by decide) ?_
                refine lv_iadd hx hb d_Q_readMatches_115 (tpi (y := nI (z3.qst + 1)) (nI_add (z3.qst) (1)) ?_)
                refine lv_aload_n hx hb d_Q_readMatches_116 rfl (lv_at hl 3 rfl) ?_
                refine gF (v := .int (nI z3.qen)) hx hb hown hE hK hP 39 rfl rfl layQ 4 (by decide) w660 rfl d_Q_readMatches_117 ?_
                refine lv_iconst (v := 1) hx hb d_Q_readMatches_120 (by decide) ?_
                refine lv_isub hx hb d_Q_readMatches_121 (tpi (y := nI (z3.qen - 1)) (pk_sub (a := z3.qen) (b := 1) (by omega)) ?_)
                refine jkV (wr := []) (rnI (As := [.ref z3.tpA, .int (nI (z3.qst + 1)), .int (nI (z3.qen - 1))]) (rest := [.ref wx, .ref wq, .int z2.qk, .ref sp]) hx hb hml hown hE hK (hN _ _ hS) hP hD (v_Winit l D dA H.size ([(sp, .inr (13, [.int kd, .int (nI pl), .long nu, .ref na, .int (nI nn), .ref ln, .ref lt, .ref mk]))] ++ ([(mk, .inl (dA 1, kN, .inl fk))] ++ (VW dA h ad z3))) wx z3.tpA z3.tpN z3.tape (z3.qst + 1) (z3.qen - 1) (List.mem_of_getElem? (i := 3) rfl) hk_z3.2.2.2.2.1 (show (z3.qst + 1) ≤ (z3.qen - 1) from by omega) (show (z3.qen - 1) ≤ z3.tpN from by omega) (show z3.tpN ≤ 131072 from by omega)) w1308 w1624 w1309 w1281 rfl rfl rfl ⟨⟨by decide, by decide⟩, rfl⟩ ⟨(Nat.le_of_ble_eq_true rfl), (Nat.le_of_ble_eq_true rfl)⟩ rfl hl.1 rfl (Nat.le_of_ble_eq_true rfl) d_Q_readMatches_122 ⟨(show 4 * (z.qst - x.qst) + 2 + 0 + 0 + 0 + 1 + 1 ≤ 4 * (rqP x.rms.1 x.rms.2.1 - x.qst) by omega), (show 2 * (z.qst - x.qst) + 4 * gn.eN + 4 * gt.eN + 2 * kN + (1 + (z.qen - z.qst)) + 0 + 0 + 0 + 1 + ((z3.qen - 1) - (z3.qst + 1)) ≤ 12 * (rqP x.rms.1 x.rms.2.1 - x.qst) + 130 by omega)⟩) hP hD hS hA (fun u18 H locs hp9 hP hD hS => ?_)
                obtain ⟨bx, gx⟩ := u18
                have hP : va_P D vwCl ([(bx, .inl (dA 0, (z3.qen - 1) - (z3.qst + 1), .inl gx))] ++ ([(wx, .inr (10, [.ref bx]))] ++ ([(sp, .inr (13, [.int kd, .int (nI pl), .long nu, .ref na, .int (nI nn), .ref ln, .ref lt, .ref mk]))] ++ ([(mk, .inl (dA 1, kN, .inl fk))] ++ (VW dA h ad z3))))) H := hP
                have hD : va_D A ([(bx, .inl (dA 0, (z3.qen - 1) - (z3.qst + 1), .inl gx))] ++ ([(wx, .inr (10, [.ref bx]))] ++ ([(sp, .inr (13, [.int kd, .int (nI pl), .long nu, .ref na, .int (nI nn), .ref ln, .ref lt, .ref mk]))] ++ ([(mk, .inl (dA 1, kN, .inl fk))] ++ (VW dA h ad z3))))) := hD
                obtain ⟨f_y_19, f_hg_20⟩ := hp9
                rcases Nat.lt_or_ge i kN with hkN | hkN
                · have hP := pmP (show List.Perm (α := Nat × va_E) ([(bx, .inl (dA 0, (z3.qen - 1) - (z3.qst + 1), .inl gx))] ++ ([(wx, .inr (10, [.ref bx]))] ++ ([(sp, .inr (13, [.int kd, .int (nI pl), .long nu, .ref na, .int (nI nn), .ref ln, .ref lt, .ref mk]))] ++ ([(mk, .inl (dA 1, kN, .inl fk))] ++ (VW dA h ad z3))))) ([(sp, .inr (13, [.int kd, .int (nI pl), .long nu, .ref na, .int (nI nn), .ref ln, .ref lt, .ref mk]))] ++ ([(bx, .inl (dA 0, (z3.qen - 1) - (z3.qst + 1), .inl gx))] ++ ([(wx, .inr (10, [.ref bx]))] ++ ([(mk, .inl (dA 1, kN, .inl fk))] ++ (VW dA h ad z3))))) from (List.Perm.append_left ([(bx, .inl (dA 0, (z3.qen - 1) - (z3.qst + 1), .inl gx))]) (List.perm_append_comm_assoc ([(wx, .inr (10, [.ref bx]))]) ([(sp, .inr (13, [.int kd, .int (nI pl), .long nu, .ref na, .int (nI nn), .ref ln, .ref lt, .ref mk]))]) ([(mk, .inl (dA 1, kN, .inl fk))] ++ (VW dA h ad z3)))).trans (List.perm_append_comm_assoc ([(bx, .inl (dA 0, (z3.qen - 1) - (z3.qst + 1), .inl gx))]) ([(sp, .inr (13, [.int kd, .int (nI pl), .long nu, .ref na, .int (nI nn), .ref ln, .ref lt, .ref mk]))]) ([(wx, .inr (10, [.ref bx]))] ++ ([(mk, .inl (dA 1, kN, .inl fk))] ++ (VW dA h ad z3))))) hP
                  have hD := pmD (show List.Perm (α := Nat × va_E) ([(bx, .inl (dA 0, (z3.qen - 1) - (z3.qst + 1), .inl gx))] ++ ([(wx, .inr (10, [.ref bx]))] ++ ([(sp, .inr (13, [.int kd, .int (nI pl), .long nu, .ref na, .int (nI nn), .ref ln, .ref lt, .ref mk]))] ++ ([(mk, .inl (dA 1, kN, .inl fk))] ++ (VW dA h ad z3))))) ([(sp, .inr (13, [.int kd, .int (nI pl), .long nu, .ref na, .int (nI nn), .ref ln, .ref lt, .ref mk]))] ++ ([(bx, .inl (dA 0, (z3.qen - 1) - (z3.qst + 1), .inl gx))] ++ ([(wx, .inr (10, [.ref bx]))] ++ ([(mk, .inl (dA 1, kN, .inl fk))] ++ (VW dA h ad z3))))) from (List.Perm.append_left ([(bx, .inl (dA 0, (z3.qen - 1) - (z3.qst + 1), .inl gx))]) (List.perm_append_comm_assoc ([(wx, .inr (10, [.ref bx]))]) ([(sp, .inr (13, [.int kd, .int (nI pl), .long nu, .ref na, .int (nI nn), .ref ln, .ref lt, .ref mk]))]) ([(mk, .inl (dA 1, kN, .inl fk))] ++ (VW dA h ad z3)))).trans (List.perm_append_comm_assoc ([(bx, .inl (dA 0, (z3.qen - 1) - (z3.qst + 1), .inl gx))]) ([(sp, .inr (13, [.int kd, .int (nI pl), .long nu, .ref na, .int (nI nn), .ref ln, .ref lt, .ref mk]))]) ([(wx, .inr (10, [.ref bx]))] ++ ([(mk, .inl (dA 1, kN, .inl fk))] ++ (VW dA h ad z3))))) hD
                  have hP := pmP (show List.Perm (α := Nat × va_E) ([(sp, .inr (13, [.int kd, .int (nI pl), .long nu, .ref na, .int (nI nn), .ref ln, .ref lt, .ref mk]))] ++ ([(bx, .inl (dA 0, (z3.qen - 1) - (z3.qst + 1), .inl gx))] ++ ([(wx, .inr (10, [.ref bx]))] ++ ([(mk, .inl (dA 1, kN, .inl fk))] ++ (VW dA h ad z3))))) ([(sp, .inr (13, [.int kd, .int (nI pl), .long nu, .ref na, .int (nI nn), .ref ln, .ref lt, .ref mk]))] ++ ([(mk, .inl (dA 1, kN, .inl fk))] ++ ([(bx, .inl (dA 0, (z3.qen - 1) - (z3.qst + 1), .inl gx))] ++ ([(wx, .inr (10, [.ref bx]))] ++ (VW dA h ad z3))))) from List.Perm.append_left ([(sp, .inr (13, [.int kd, .int (nI pl), .long nu, .ref na, .int (nI nn), .ref ln, .ref lt, .ref mk]))]) ((List.Perm.append_left ([(bx, .inl (dA 0, (z3.qen - 1) - (z3.qst + 1), .inl gx))]) (List.perm_append_comm_assoc ([(wx, .inr (10, [.ref bx]))]) ([(mk, .inl (dA 1, kN, .inl fk))]) (VW dA h ad z3))).trans (List.perm_append_comm_assoc ([(bx, .inl (dA 0, (z3.qen - 1) - (z3.qst + 1), .inl gx))]) ([(mk, .inl (dA 1, kN, .inl fk))]) ([(wx, .inr (10, [.ref bx]))] ++ (VW dA h ad z3))))) hP
                  have hD := pmD (show List.Perm (α := Nat × va_E) ([(sp, .inr (13, [.int kd, .int (nI pl), .long nu, .ref na, .int (nI nn), .ref ln, .ref lt, .ref mk]))] ++ ([(bx, .inl (dA 0, (z3.qen - 1) - (z3.qst + 1), .inl gx))] ++ ([(wx, .inr (10, [.ref bx]))] ++ ([(mk, .inl (dA 1, kN, .inl fk))] ++ (VW dA h ad z3))))) ([(sp, .inr (13, [.int kd, .int (nI pl), .long nu, .ref na, .int (nI nn), .ref ln, .ref lt, .ref mk]))] ++ ([(mk, .inl (dA 1, kN, .inl fk))] ++ ([(bx, .inl (dA 0, (z3.qen - 1) - (z3.qst + 1), .inl gx))] ++ ([(wx, .inr (10, [.ref bx]))] ++ (VW dA h ad z3))))) from List.Perm.append_left ([(sp, .inr (13, [.int kd, .int (nI pl), .long nu, .ref na, .int (nI nn), .ref ln, .ref lt, .ref mk]))]) ((List.Perm.append_left ([(bx, .inl (dA 0, (z3.qen - 1) - (z3.qst + 1), .inl gx))]) (List.perm_append_comm_assoc ([(wx, .inr (10, [.ref bx]))]) ([(mk, .inl (dA 1, kN, .inl fk))]) (VW dA h ad z3))).trans (List.perm_append_comm_assoc ([(bx, .inl (dA 0, (z3.qen - 1) - (z3.qst + 1), .inl gx))]) ([(mk, .inl (dA 1, kN, .inl fk))]) ([(wx, .inr (10, [.ref bx]))] ++ (VW dA h ad z3))))) hD
                  have hP : va_P D vwCl ([(sp, .inr (13, [.int kd, .int (nI pl), .long nu, .ref na, .int (nI nn), .ref ln, .ref lt, .ref mk]))] ++ ([(mk, .inl (dA 1, kN, .inl fk))] ++ (VW dA h ad (VS.s_pl z3 (z3.pl ++ ([(bx, .inl (dA 0, (z3.qen - 1) - (z3.qst + 1), .inl gx))] ++ ([(wx, .inr (10, [.ref bx]))]))))))) H := pmP (show List.Perm (α := Nat × va_E) ([(sp, .inr (13, [.int kd, .int (nI pl), .long nu, .ref na, .int (nI nn), .ref ln, .ref lt, .ref mk]))] ++ ([(mk, .inl (dA 1, kN, .inl fk))] ++ ([(bx, .inl (dA 0, (z3.qen - 1) - (z3.qst + 1), .inl gx))] ++ ([(wx, .inr (10, [.ref bx]))] ++ (VW dA h ad z3))))) ([(sp, .inr (13, [.int kd, .int (nI pl), .long nu, .ref na, .int (nI nn), .ref ln, .ref lt, .ref mk]))] ++ ([(mk, .inl (dA 1, kN, .inl fk))] ++ (VW dA h ad (VS.s_pl z3 (z3.pl ++ ([(bx, .inl (dA 0, (z3.qen - 1) - (z3.qst + 1), .inl gx))] ++ ([(wx, .inr (10, [.ref bx]))]))))))) from List.Perm.append_left ([(sp, .inr (13, [.int kd, .int (nI pl), .long nu, .ref na, .int (nI nn), .ref ln, .ref lt, .ref mk]))]) (List.Perm.append_left ([(mk, .inl (dA 1, kN, .inl fk))]) (plP2 (dA := dA) (h := h) (ad := ad) z3 ([(bx, .inl (dA 0, (z3.qen - 1) - (z3.qst + 1), .inl gx))]) ([(wx, .inr (10, [.ref bx]))])))) hP
                  have hD : va_D A ([(sp, .inr (13, [.int kd, .int (nI pl), .long nu, .ref na, .int (nI nn), .ref ln, .ref lt, .ref mk]))] ++ ([(mk, .inl (dA 1, kN, .inl fk))] ++ (VW dA h ad (VS.s_pl z3 (z3.pl ++ ([(bx, .inl (dA 0, (z3.qen - 1) - (z3.qst + 1), .inl gx))] ++ ([(wx, .inr (10, [.ref bx]))]))))))) := pmD (show List.Perm (α := Nat × va_E) ([(sp, .inr (13, [.int kd, .int (nI pl), .long nu, .ref na, .int (nI nn), .ref ln, .ref lt, .ref mk]))] ++ ([(mk, .inl (dA 1, kN, .inl fk))] ++ ([(bx, .inl (dA 0, (z3.qen - 1) - (z3.qst + 1), .inl gx))] ++ ([(wx, .inr (10, [.ref bx]))] ++ (VW dA h ad z3))))) ([(sp, .inr (13, [.int kd, .int (nI pl), .long nu, .ref na, .int (nI nn), .ref ln, .ref lt, .ref mk]))] ++ ([(mk, .inl (dA 1, kN, .inl fk))] ++ (VW dA h ad (VS.s_pl z3 (z3.pl ++ ([(bx, .inl (dA 0, (z3.qen - 1) - (z3.qst + 1), .inl gx))] ++ ([(wx, .inr (10, [.ref bx]))]))))))) from List.Perm.append_left ([(sp, .inr (13, [.int kd, .int (nI pl), .long nu, .ref na, .int (nI nn), .ref ln, .ref lt, .ref mk]))]) (List.Perm.append_left ([(mk, .inl (dA 1, kN, .inl fk))]) (plP2 (dA := dA) (h := h) (ad := ad) z3 ([(bx, .inl (dA 0, (z3.qen - 1) - (z3.qst + 1), .inl gx))]) ([(wx, .inr (10, [.ref bx]))])))) hD
                  obtain ⟨pl21, e_pl21⟩ : ∃ z, z = z3.pl ++ ([(bx, .inl (dA 0, (z3.qen - 1) - (z3.qst + 1), .inl gx))] ++ ([(wx, .inr (10, [.ref bx]))])) := ⟨_, rfl⟩
                  rw [← e_pl21] at hP hD
                  have s_pl21 : ∀ c, c ∈ z3.pl → c ∈ pl21 := by rw [e_pl21]; exact fun _ hm => List.mem_append_left _ hm
                  have t_pl21_0 : ((bx, .inl (dA 0, (z3.qen - 1) - (z3.qst + 1), .inl gx)) : Nat × va_E) ∈ pl21 := by rw [e_pl21]; exact List.mem_append_right _ (List.mem_of_getElem? (i := 0) rfl)
                  have t_pl21_1 : ((wx, .inr (10, [.ref bx])) : Nat × va_E) ∈ pl21 := by rw [e_pl21]; exact List.mem_append_right _ (List.mem_of_getElem? (i := 1) rfl)
                  have hP : va_P D vwCl ([(sp, .inr (13, [.int kd, .int (nI pl), .long nu, .ref na, .int (nI nn), .ref ln, .ref lt, .ref mk]))] ++ ([(mk, .inl (dA 1, kN, .inl fk))] ++ (VW dA h ad (VS.s_pl z3 pl21)))) H := hP
                  have hD : va_D A ([(sp, .inr (13, [.int kd, .int (nI pl), .long nu, .ref na, .int (nI nn), .ref ln, .ref lt, .ref mk]))] ++ ([(mk, .inl (dA 1, kN, .inl fk))] ++ (VW dA h ad (VS.s_pl z3 pl21)))) := hD
                  have w8 : isWo dA pl21 wx (tkx x.tape (nxT x.tape x.qlen (nxT x.tape x.qlen z.tk))) := by
                    rw [← tt_z3, ← kf_z3.1]
                    exact isWo_n t_pl21_1 t_pl21_0 f_y_19 (seg_len _ _ _) (fun k hk => (f_hg_20 k hk).trans (seg_get _ hk).symm)
                  have l8 : (tkx x.tape (nxT x.tape x.qlen (nxT x.tape x.qlen z.tk))).length ≤ 65536 := by rw [tkx_len, ← tt_z3]; show z3.qen - 1 - (z3.qst + 1) ≤ 65536; omega
                  have sb : ∀ c, c ∈ z.pl → c ∈ pl21 := fun c hc => s_pl21 c (qq_z3.2 c (qq_z2.2 c (qq_z1.2 c hc)))
                  have w7 := isWo_m (fun c hc => s_pl21 c (qq_z3.2 c (qq_z2.2 c hc))) w9
                  have wn1 := lwOk_m sb wn
                  have wt1 := lwOk_m sb wv
                  have gb1 := gq_b wn.1 lg.2.1 cn
                  have gb2 := gq_b wv.1 lgt.2.1 ct
                  have sz9 := wn.1
                  obtain ⟨z4, e_z4⟩ : ∃ w9, w9 = VS.s_pl z3 pl21 := ⟨_, rfl⟩
                  rw [← e_z4] at hP hD
                  have hP : va_P D vwCl ([(sp, .inr (13, [.int kd, .int (nI pl), .long nu, .ref na, .int (nI nn), .ref ln, .ref lt, .ref mk]))] ++ ([(mk, .inl (dA 1, kN, .inl fk))] ++ (VW dA h ad z4))) H := hP
                  have hD : va_D A ([(sp, .inr (13, [.int kd, .int (nI pl), .long nu, .ref na, .int (nI nn), .ref ln, .ref lt, .ref mk]))] ++ ([(mk, .inl (dA 1, kN, .inl fk))] ++ (VW dA h ad z4))) := hD
                  have hl4 : z4.ll = LqW dA ln gn ++ (LqW dA lt gt ++ r) := by rw [e_z4]; exact ml_z3.trans (ml_z2.trans (ml_z1.trans hlz))
                  have hk4 : z4.qok := by rw [e_z4]; exact hk_z3
                  have q34 : z3.qr z4 := by rw [e_z4]; exact ⟨rfl, s_pl21⟩
                  have ep4 : z4.pl = pl21 := by rw [e_z4]
                  have tk4 : z4.tk = nxT x.tape x.qlen (nxT x.tape x.qlen z.tk) := by rw [e_z4]; exact tt_z3
                  rw [← ep4] at w8 w7 wn1 wt1
                  have hP := pmP (show List.Perm (α := Nat × va_E) ([(sp, .inr (13, [.int kd, .int (nI pl), .long nu, .ref na, .int (nI nn), .ref ln, .ref lt, .ref mk]))] ++ ([(mk, .inl (dA 1, kN, .inl fk))] ++ (VW dA h ad z4))) (LqW dA ln gn ++ ([(sp, .inr (13, [.int kd, .int (nI pl), .long nu, .ref na, .int (nI nn), .ref ln, .ref lt, .ref mk]))] ++ ([(mk, .inl (dA 1, kN, .inl fk))] ++ (VW dA h ad (VS.s_ll z4 (LqW dA lt gt ++ r)))))) from llF (F := [(sp, .inr (13, [.int kd, .int (nI pl), .long nu, .ref na, .int (nI nn), .ref ln, .ref lt, .ref mk]))]) (llF (F := [(mk, .inl (dA 1, kN, .inl fk))]) (llP (dA := dA) (h := h) (ad := ad) (x := z4) (L := LqW dA ln gn) (r := (LqW dA lt gt ++ r)) hl4))) hP
                  have hD := pmD (show List.Perm (α := Nat × va_E) ([(sp, .inr (13, [.int kd, .int (nI pl), .long nu, .ref na, .int (nI nn), .ref ln, .ref lt, .ref mk]))] ++ ([(mk, .inl (dA 1, kN, .inl fk))] ++ (VW dA h ad z4))) (LqW dA ln gn ++ ([(sp, .inr (13, [.int kd, .int (nI pl), .long nu, .ref na, .int (nI nn), .ref ln, .ref lt, .ref mk]))] ++ ([(mk, .inl (dA 1, kN, .inl fk))] ++ (VW dA h ad (VS.s_ll z4 (LqW dA lt gt ++ r)))))) from llF (F := [(sp, .inr (13, [.int kd, .int (nI pl), .long nu, .ref na, .int (nI nn), .ref ln, .ref lt, .ref mk]))]) (llF (F := [(mk, .inl (dA 1, kN, .inl fk))]) (llP (dA := dA) (h := h) (ad := ad) (x := z4) (L := LqW dA ln gn) (r := (LqW dA lt gt ++ r)) hl4))) hD
                  have hP : va_P D vwCl (LqW dA ln gn ++ ([(sp, .inr (13, [.int kd, .int (nI pl), .long nu, .ref na, .int (nI nn), .ref ln, .ref lt, .ref mk]))] ++ ([(mk, .inl (dA 1, kN, .inl fk))] ++ (VW dA h ad (VS.s_ll z4 (LqW dA lt gt ++ r)))))) H := hP
                  have hD : va_D A (LqW dA ln gn ++ ([(sp, .inr (13, [.int kd, .int (nI pl), .long nu, .ref na, .int (nI nn), .ref ln, .ref lt, .ref mk]))] ++ ([(mk, .inl (dA 1, kN, .inl fk))] ++ (VW dA h ad (VS.s_ll z4 (LqW dA lt gt ++ r)))))) := hD
                  have hP := pmP (show List.Perm (α := Nat × va_E) (LqW dA ln gn ++ ([(sp, .inr (13, [.int kd, .int (nI pl), .long nu, .ref na, .int (nI nn), .ref ln, .ref lt, .ref mk]))] ++ ([(mk, .inl (dA 1, kN, .inl fk))] ++ (VW dA h ad (VS.s_ll z4 (LqW dA lt gt ++ r)))))) (LqW dA lt gt ++ (LqW dA ln gn ++ ([(sp, .inr (13, [.int kd, .int (nI pl), .long nu, .ref na, .int (nI nn), .ref ln, .ref lt, .ref mk]))] ++ ([(mk, .inl (dA 1, kN, .inl fk))] ++ (VW dA h ad (VS.s_ll z4 r)))))) from llF (F := LqW dA ln gn) (llF (F := [(sp, .inr (13, [.int kd, .int (nI pl), .long nu, .ref na, .int (nI nn), .ref ln, .ref lt, .ref mk]))]) (llF (F := [(mk, .inl (dA 1, kN, .inl fk))]) (llP (dA := dA) (h := h) (ad := ad) (x := (VS.s_ll z4 (LqW dA lt gt ++ r))) (L := LqW dA lt gt) (r := r) rfl)))) hP
                  have hD := pmD (show List.Perm (α := Nat × va_E) (LqW dA ln gn ++ ([(sp, .inr (13, [.int kd, .int (nI pl), .long nu, .ref na, .int (nI nn), .ref ln, .ref lt, .ref mk]))] ++ ([(mk, .inl (dA 1, kN, .inl fk))] ++ (VW dA h ad (VS.s_ll z4 (LqW dA lt gt ++ r)))))) (LqW dA lt gt ++ (LqW dA ln gn ++ ([(sp, .inr (13, [.int kd, .int (nI pl), .long nu, .ref na, .int (nI nn), .ref ln, .ref lt, .ref mk]))] ++ ([(mk, .inl (dA 1, kN, .inl fk))] ++ (VW dA h ad (VS.s_ll z4 r)))))) from llF (F := LqW dA ln gn) (llF (F := [(sp, .inr (13, [.int kd, .int (nI pl), .long nu, .ref na, .int (nI nn), .ref ln, .ref lt, .ref mk]))]) (llF (F := [(mk, .inl (dA 1, kN, .inl fk))]) (llP (dA := dA) (h := h) (ad := ad) (x := (VS.s_ll z4 (LqW dA lt gt ++ r))) (L := LqW dA lt gt) (r := r) rfl)))) hD
                  have hP : va_P D vwCl (LqW dA lt gt ++ (LqW dA ln gn ++ ([(sp, .inr (13, [.int kd, .int (nI pl), .long nu, .ref na, .int (nI nn), .ref ln, .ref lt, .ref mk]))] ++ ([(mk, .inl (dA 1, kN, .inl fk))] ++ (VW dA h ad (VS.s_ll z4 r)))))) H := hP
                  have hD : va_D A (LqW dA lt gt ++ (LqW dA ln gn ++ ([(sp, .inr (13, [.int kd, .int (nI pl), .long nu, .ref na, .int (nI nn), .ref ln, .ref lt, .ref mk]))] ++ ([(mk, .inl (dA 1, kN, .inl fk))] ++ (VW dA h ad (VS.s_ll z4 r)))))) := hD
                  have hP := pmP (show List.Perm (α := Nat × va_E) (LqW dA lt gt ++ (LqW dA ln gn ++ ([(sp, .inr (13, [.int kd, .int (nI pl), .long nu, .ref na, .int (nI nn), .ref ln, .ref lt, .ref mk]))] ++ ([(mk, .inl (dA 1, kN, .inl fk))] ++ (VW dA h ad (VS.s_ll z4 r)))))) ([(sp, .inr (13, [.int kd, .int (nI pl), .long nu, .ref na, .int (nI nn), .ref ln, .ref lt, .ref mk]))] ++ (LqW dA lt gt ++ (LqW dA ln gn ++ ([(mk, .inl (dA 1, kN, .inl fk))] ++ (VW dA h ad (VS.s_ll z4 r)))))) from (List.Perm.append_left (LqW dA lt gt) (List.perm_append_comm_assoc (LqW dA ln gn) ([(sp, .inr (13, [.int kd, .int (nI pl), .long nu, .ref na, .int (nI nn), .ref ln, .ref lt, .ref mk]))]) ([(mk, .inl (dA 1, kN, .inl fk))] ++ (VW dA h ad (VS.s_ll z4 r))))).trans (List.perm_append_comm_assoc (LqW dA lt gt) ([(sp, .inr (13, [.int kd, .int (nI pl), .long nu, .ref na, .int (nI nn), .ref ln, .ref lt, .ref mk]))]) (LqW dA ln gn ++ ([(mk, .inl (dA 1, kN, .inl fk))] ++ (VW dA h ad (VS.s_ll z4 r)))))) hP
                  have hD := pmD (show List.Perm (α := Nat × va_E) (LqW dA lt gt ++ (LqW dA ln gn ++ ([(sp, .inr (13, [.int kd, .int (nI pl), .long nu, .ref na, .int (nI nn), .ref ln, .ref lt, .ref mk]))] ++ ([(mk, .inl (dA 1, kN, .inl fk))] ++ (VW dA h ad (VS.s_ll z4 r)))))) ([(sp, .inr (13, [.int kd, .int (nI pl), .long nu, .ref na, .int (nI nn), .ref ln, .ref lt, .ref mk]))] ++ (LqW dA lt gt ++ (LqW dA ln gn ++ ([(mk, .inl (dA 1, kN, .inl fk))] ++ (VW dA h ad (VS.s_ll z4 r)))))) from (List.Perm.append_left (LqW dA lt gt) (List.perm_append_comm_assoc (LqW dA ln gn) ([(sp, .inr (13, [.int kd, .int (nI pl), .long nu, .ref na, .int (nI nn), .ref ln, .ref lt, .ref mk]))]) ([(mk, .inl (dA 1, kN, .inl fk))] ++ (VW dA h ad (VS.s_ll z4 r))))).trans (List.perm_append_comm_assoc (LqW dA lt gt) ([(sp, .inr (13, [.int kd, .int (nI pl), .long nu, .ref na, .int (nI nn), .ref ln, .ref lt, .ref mk]))]) (LqW dA ln gn ++ ([(mk, .inl (dA 1, kN, .inl fk))] ++ (VW dA h ad (VS.s_ll z4 r)))))) hD
                  have hP := pmP (show List.Perm (α := Nat × va_E) ([(sp, .inr (13, [.int kd, .int (nI pl), .long nu, .ref na, .int (nI nn), .ref ln, .ref lt, .ref mk]))] ++ (LqW dA lt gt ++ (LqW dA ln gn ++ ([(mk, .inl (dA 1, kN, .inl fk))] ++ (VW dA h ad (VS.s_ll z4 r)))))) ([(sp, .inr (13, [.int kd, .int (nI pl), .long nu, .ref na, .int (nI nn), .ref ln, .ref lt, .ref mk]))] ++ ([(mk, .inl (dA 1, kN, .inl fk))] ++ (LqW dA lt gt ++ (LqW dA ln gn ++ (VW dA h ad (VS.s_ll z4 r)))))) from List.Perm.append_left ([(sp, .inr (13, [.int kd, .int (nI pl), .long nu, .ref na, .int (nI nn), .ref ln, .ref lt, .ref mk]))]) ((List.Perm.append_left (LqW dA lt gt) (List.perm_append_comm_assoc (LqW dA ln gn) ([(mk, .inl (dA 1, kN, .inl fk))]) (VW dA h ad (VS.s_ll z4 r)))).trans (List.perm_append_comm_assoc (LqW dA lt gt) ([(mk, .inl (dA 1, kN, .inl fk))]) (LqW dA ln gn ++ (VW dA h ad (VS.s_ll z4 r)))))) hP
                  have hD := pmD (show List.Perm (α := Nat × va_E) ([(sp, .inr (13, [.int kd, .int (nI pl), .long nu, .ref na, .int (nI nn), .ref ln, .ref lt, .ref mk]))] ++ (LqW dA lt gt ++ (LqW dA ln gn ++ ([(mk, .inl (dA 1, kN, .inl fk))] ++ (VW dA h ad (VS.s_ll z4 r)))))) ([(sp, .inr (13, [.int kd, .int (nI pl), .long nu, .ref na, .int (nI nn), .ref ln, .ref lt, .ref mk]))] ++ ([(mk, .inl (dA 1, kN, .inl fk))] ++ (LqW dA lt gt ++ (LqW dA ln gn ++ (VW dA h ad (VS.s_ll z4 r)))))) from List.Perm.append_left ([(sp, .inr (13, [.int kd, .int (nI pl), .long nu, .ref na, .int (nI nn), .ref ln, .ref lt, .ref mk]))]) ((List.Perm.append_left (LqW dA lt gt) (List.perm_append_comm_assoc (LqW dA ln gn) ([(mk, .inl (dA 1, kN, .inl fk))]) (VW dA h ad (VS.s_ll z4 r)))).trans (List.perm_append_comm_assoc (LqW dA lt gt) ([(mk, .inl (dA 1, kN, .inl fk))]) (LqW dA ln gn ++ (VW dA h ad (VS.s_ll z4 r)))))) hD
                  have hP := pmP (show List.Perm (α := Nat × va_E) ([(sp, .inr (13, [.int kd, .int (nI pl), .long nu, .ref na, .int (nI nn), .ref ln, .ref lt, .ref mk]))] ++ ([(mk, .inl (dA 1, kN, .inl fk))] ++ (LqW dA lt gt ++ (LqW dA ln gn ++ (VW dA h ad (VS.s_ll z4 r)))))) ([(sp, .inr (13, [.int kd, .int (nI pl), .long nu, .ref na, .int (nI nn), .ref ln, .ref lt, .ref mk]))] ++ ([(mk, .inl (dA 1, kN, .inl fk))] ++ (LqW dA ln gn ++ (LqW dA lt gt ++ (VW dA h ad (VS.s_ll z4 r)))))) from List.Perm.append_left ([(sp, .inr (13, [.int kd, .int (nI pl), .long nu, .ref na, .int (nI nn), .ref ln, .ref lt, .ref mk]))]) (List.Perm.append_left ([(mk, .inl (dA 1, kN, .inl fk))]) (List.perm_append_comm_assoc (LqW dA lt gt) (LqW dA ln gn) (VW dA h ad (VS.s_ll z4 r))))) hP
                  have hD := pmD (show List.Perm (α := Nat × va_E) ([(sp, .inr (13, [.int kd, .int (nI pl), .long nu, .ref na, .int (nI nn), .ref ln, .ref lt, .ref mk]))] ++ ([(mk, .inl (dA 1, kN, .inl fk))] ++ (LqW dA lt gt ++ (LqW dA ln gn ++ (VW dA h ad (VS.s_ll z4 r)))))) ([(sp, .inr (13, [.int kd, .int (nI pl), .long nu, .ref na, .int (nI nn), .ref ln, .ref lt, .ref mk]))] ++ ([(mk, .inl (dA 1, kN, .inl fk))] ++ (LqW dA ln gn ++ (LqW dA lt gt ++ (VW dA h ad (VS.s_ll z4 r)))))) from List.Perm.append_left ([(sp, .inr (13, [.int kd, .int (nI pl), .long nu, .ref na, .int (nI nn), .ref ln, .ref lt, .ref mk]))]) (List.Perm.append_left ([(mk, .inl (dA 1, kN, .inl fk))]) (List.perm_append_comm_assoc (LqW dA lt gt) (LqW dA ln gn) (VW dA h ad (VS.s_ll z4 r))))) hD
                  refine jkV (wr := []) (rnVy (As := [.int z2.qk, .ref wq, .ref wx]) (rest := []) hx hb hml hown hE hK hZ hT hM hS (hN _ _ hS) hP hD (v_EaddMatchQ_r l D dA H.size e0 mi (VW dA h ad (VS.s_ll z4 r)) sp kd pl nu na nn ln lt mk kN fk gn gt z2.qk wq wx (tkw x.tape z.tk) (tkx x.tape (nxT x.tape x.qlen (nxT x.tape x.qlen z.tk))) (isWo_m (fun _ hm => (plm hm)) w7) (isWo_m (fun _ hm => (plm hm)) w8) lg lgt (fun i hi y hy => by obtain ⟨vs, hv⟩ := wn1.2.2 i hi y hy; exact ⟨vs, plm (x := VS.s_ll z4 r) hv⟩) (fun i hi y hy => by obtain ⟨vs, hv⟩ := wt1.2.2 i hi y hy; exact ⟨vs, plm (x := VS.s_ll z4 r) hv⟩) (show gn.sz ≤ 16384 from by omega) (show kN ≤ 40000 from by omega) (show gn.sz < kN from by omega)) (q0 := 0) rfl rfl w1642 w1641 w1643 w1644 w1496 rfl rfl ⟨⟨by decide, by decide⟩, rfl⟩ ⟨(Nat.le_of_ble_eq_true rfl), (Nat.le_of_ble_eq_true rfl)⟩ rfl hl.1 rfl (Nat.le_of_ble_eq_true rfl) d_Q_readMatches_125 ⟨(show 4 * (z.qst - x.qst) + 2 + 0 + 0 + 0 + 1 + 1 + 2 ≤ 4 * (rqP x.rms.1 x.rms.2.1 - x.qst) by omega), (show 2 * (z.qst - x.qst) + 4 * gn.eN + 4 * gt.eN + 2 * kN + (1 + (z.qen - z.qst)) + 0 + 0 + 0 + 1 + ((z3.qen - 1) - (z3.qst + 1)) + (gqS gn + gqS gt) ≤ 12 * (rqP x.rms.1 x.rms.2.1 - x.qst) + 130 by omega)⟩) hP hD hS hA (fun u23 H locs hp9 hP hD hS => ?_)
                  obtain ⟨gq, gr⟩ := u23
                  have hP : va_P D vwCl ([(sp, .inr (13, [.int kd, .int (nI pl), .long nu, .ref na, .int (nI nn), .ref ln, .ref lt, .ref mk]))] ++ ([(mk, .inl (dA 1, kN, .inl (va_up fk gn.sz z2.qk)))] ++ (LqW dA ln gq ++ (LqW dA lt gr ++ (VW dA h ad (VS.s_ll z4 r)))))) H := hP
                  have hD : va_D A ([(sp, .inr (13, [.int kd, .int (nI pl), .long nu, .ref na, .int (nI nn), .ref ln, .ref lt, .ref mk]))] ++ ([(mk, .inl (dA 1, kN, .inl (va_up fk gn.sz z2.qk)))] ++ (LqW dA ln gq ++ (LqW dA lt gr ++ (VW dA h ad (VS.s_ll z4 r)))))) := hD
                  obtain ⟨f_a1_24, f_a2_25⟩ := hp9
                  refine lv_aload_n hx hb d_Q_readMatches_128 rfl (lv_at hl 3 rfl) ?_
                  have hP := pmP (show List.Perm (α := Nat × va_E) ([(sp, .inr (13, [.int kd, .int (nI pl), .long nu, .ref na, .int (nI nn), .ref ln, .ref lt, .ref mk]))] ++ ([(mk, .inl (dA 1, kN, .inl (va_up fk gn.sz z2.qk)))] ++ (LqW dA ln gq ++ (LqW dA lt gr ++ (VW dA h ad (VS.s_ll z4 r)))))) (LqW dA lt gr ++ ([(sp, .inr (13, [.int kd, .int (nI pl), .long nu, .ref na, .int (nI nn), .ref ln, .ref lt, .ref mk]))] ++ ([(mk, .inl (dA 1, kN, .inl (va_up fk gn.sz z2.qk)))] ++ (LqW dA ln gq ++ (VW dA h ad (VS.s_ll z4 r)))))) from (List.Perm.append_left ([(sp, .inr (13, [.int kd, .int (nI pl), .long nu, .ref na, .int (nI nn), .ref ln, .ref lt, .ref mk]))]) ((List.Perm.append_left ([(mk, .inl (dA 1, kN, .inl (va_up fk gn.sz z2.qk)))]) (List.perm_append_comm_assoc (LqW dA ln gq) (LqW dA lt gr) (VW dA h ad (VS.s_ll z4 r)))).trans (List.perm_append_comm_assoc ([(mk, .inl (dA 1, kN, .inl (va_up fk gn.sz z2.qk)))]) (LqW dA lt gr) (LqW dA ln gq ++ (VW dA h ad (VS.s_ll z4 r)))))).trans (List.perm_append_comm_assoc ([(sp, .inr (13, [.int kd, .int (nI pl), .long nu, .ref na, .int (nI nn), .ref ln, .ref lt, .ref mk]))]) (LqW dA lt gr) ([(mk, .inl (dA 1, kN, .inl (va_up fk gn.sz z2.qk)))] ++ (LqW dA ln gq ++ (VW dA h ad (VS.s_ll z4 r)))))) hP
                  have hD := pmD (show List.Perm (α := Nat × va_E) ([(sp, .inr (13, [.int kd, .int (nI pl), .long nu, .ref na, .int (nI nn), .ref ln, .ref lt, .ref mk]))] ++ ([(mk, .inl (dA 1, kN, .inl (va_up fk gn.sz z2.qk)))] ++ (LqW dA ln gq ++ (LqW dA lt gr ++ (VW dA h ad (VS.s_ll z4 r)))))) (LqW dA lt gr ++ ([(sp, .inr (13, [.int kd, .int (nI pl), .long nu, .ref na, .int (nI nn), .ref ln, .ref lt, .ref mk]))] ++ ([(mk, .inl (dA 1, kN, .inl (va_up fk gn.sz z2.qk)))] ++ (LqW dA ln gq ++ (VW dA h ad (VS.s_ll z4 r)))))) from (List.Perm.append_left ([(sp, .inr (13, [.int kd, .int (nI pl), .long nu, .ref na, .int (nI nn), .ref ln, .ref lt, .ref mk]))]) ((List.Perm.append_left ([(mk, .inl (dA 1, kN, .inl (va_up fk gn.sz z2.qk)))]) (List.perm_append_comm_assoc (LqW dA ln gq) (LqW dA lt gr) (VW dA h ad (VS.s_ll z4 r)))).trans (List.perm_append_comm_assoc ([(mk, .inl (dA 1, kN, .inl (va_up fk gn.sz z2.qk)))]) (LqW dA lt gr) (LqW dA ln gq ++ (VW dA h ad (VS.s_ll z4 r)))))).trans (List.perm_append_comm_assoc ([(sp, .inr (13, [.int kd, .int (nI pl), .long nu, .ref na, .int (nI nn), .ref ln, .ref lt, .ref mk]))]) (LqW dA lt gr) ([(mk, .inl (dA 1, kN, .inl (va_up fk gn.sz z2.qk)))] ++ (LqW dA ln gq ++ (VW dA h ad (VS.s_ll z4 r)))))) hD
                  have hP := pmP (show List.Perm (α := Nat × va_E) (LqW dA lt gr ++ ([(sp, .inr (13, [.int kd, .int (nI pl), .long nu, .ref na, .int (nI nn), .ref ln, .ref lt, .ref mk]))] ++ ([(mk, .inl (dA 1, kN, .inl (va_up fk gn.sz z2.qk)))] ++ (LqW dA ln gq ++ (VW dA h ad (VS.s_ll z4 r)))))) ([(sp, .inr (13, [.int kd, .int (nI pl), .long nu, .ref na, .int (nI nn), .ref ln, .ref lt, .ref mk]))] ++ ([(mk, .inl (dA 1, kN, .inl (va_up fk gn.sz z2.qk)))] ++ (LqW dA ln gq ++ (VW dA h ad (VS.s_ll z4 (LqW dA lt gr ++ r)))))) from (llF (F := [(sp, .inr (13, [.int kd, .int (nI pl), .long nu, .ref na, .int (nI nn), .ref ln, .ref lt, .ref mk]))]) (llF (F := [(mk, .inl (dA 1, kN, .inl (va_up fk gn.sz z2.qk)))]) (llF (F := LqW dA ln gq) (llP (dA := dA) (h := h) (ad := ad) (x := (VS.s_ll z4 (LqW dA lt gr ++ r))) (L := LqW dA lt gr) (r := r) rfl)))).symm) hP
                  have hD := pmD (show List.Perm (α := Nat × va_E) (LqW dA lt gr ++ ([(sp, .inr (13, [.int kd, .int (nI pl), .long nu, .ref na, .int (nI nn), .ref ln, .ref lt, .ref mk]))] ++ ([(mk, .inl (dA 1, kN, .inl (va_up fk gn.sz z2.qk)))] ++ (LqW dA ln gq ++ (VW dA h ad (VS.s_ll z4 r)))))) ([(sp, .inr (13, [.int kd, .int (nI pl), .long nu, .ref na, .int (nI nn), .ref ln, .ref lt, .ref mk]))] ++ ([(mk, .inl (dA 1, kN, .inl (va_up fk gn.sz z2.qk)))] ++ (LqW dA ln gq ++ (VW dA h ad (VS.s_ll z4 (LqW dA lt gr ++ r)))))) from (llF (F := [(sp, .inr (13, [.int kd, .int (nI pl), .long nu, .ref na, .int (nI nn), .ref ln, .ref lt, .ref mk]))]) (llF (F := [(mk, .inl (dA 1, kN, .inl (va_up fk gn.sz z2.qk)))]) (llF (F := LqW dA ln gq) (llP (dA := dA) (h := h) (ad := ad) (x := (VS.s_ll z4 (LqW dA lt gr ++ r))) (L := LqW dA lt gr) (r := r) rfl)))).symm) hD
                  have hP : va_P D vwCl ([(sp, .inr (13, [.int kd, .int (nI pl), .long nu, .ref na, .int (nI nn), .ref ln, .ref lt, .ref mk]))] ++ ([(mk, .inl (dA 1, kN, .inl (va_up fk gn.sz z2.qk)))] ++ (LqW dA ln gq ++ (VW dA h ad (VS.s_ll z4 (LqW dA lt gr ++ r)))))) H := hP
                  have hD : va_D A ([(sp, .inr (13, [.int kd, .int (nI pl), .long nu, .ref na, .int (nI nn), .ref ln, .ref lt, .ref mk]))] ++ ([(mk, .inl (dA 1, kN, .inl (va_up fk gn.sz z2.qk)))] ++ (LqW dA ln gq ++ (VW dA h ad (VS.s_ll z4 (LqW dA lt gr ++ r)))))) := hD
                  have hP := pmP (show List.Perm (α := Nat × va_E) ([(sp, .inr (13, [.int kd, .int (nI pl), .long nu, .ref na, .int (nI nn), .ref ln, .ref lt, .ref mk]))] ++ ([(mk, .inl (dA 1, kN, .inl (va_up fk gn.sz z2.qk)))] ++ (LqW dA ln gq ++ (VW dA h ad (VS.s_ll z4 (LqW dA lt gr ++ r)))))) (LqW dA ln gq ++ ([(sp, .inr (13, [.int kd, .int (nI pl), .long nu, .ref na, .int (nI nn), .ref ln, .ref lt, .ref mk]))] ++ ([(mk, .inl (dA 1, kN, .inl (va_up fk gn.sz z2.qk)))] ++ (VW dA h ad (VS.s_ll z4 (LqW dA lt gr ++ r)))))) from (List.Perm.append_left ([(sp, .inr (13, [.int kd, .int (nI pl), .long nu, .ref na, .int (nI nn), .ref ln, .ref lt, .ref mk]))]) (List.perm_append_comm_assoc ([(mk, .inl (dA 1, kN, .inl (va_up fk gn.sz z2.qk)))]) (LqW dA ln gq) (VW dA h ad (VS.s_ll z4 (LqW dA lt gr ++ r))))).trans (List.perm_append_comm_assoc ([(sp, .inr (13, [.int kd, .int (nI pl), .long nu, .ref na, .int (nI nn), .ref ln, .ref lt, .ref mk]))]) (LqW dA ln gq) ([(mk, .inl (dA 1, kN, .inl (va_up fk gn.sz z2.qk)))] ++ (VW dA h ad (VS.s_ll z4 (LqW dA lt gr ++ r)))))) hP
                  have hD := pmD (show List.Perm (α := Nat × va_E) ([(sp, .inr (13, [.int kd, .int (nI pl), .long nu, .ref na, .int (nI nn), .ref ln, .ref lt, .ref mk]))] ++ ([(mk, .inl (dA 1, kN, .inl (va_up fk gn.sz z2.qk)))] ++ (LqW dA ln gq ++ (VW dA h ad (VS.s_ll z4 (LqW dA lt gr ++ r)))))) (LqW dA ln gq ++ ([(sp, .inr (13, [.int kd, .int (nI pl), .long nu, .ref na, .int (nI nn), .ref ln, .ref lt, .ref mk]))] ++ ([(mk, .inl (dA 1, kN, .inl (va_up fk gn.sz z2.qk)))] ++ (VW dA h ad (VS.s_ll z4 (LqW dA lt gr ++ r)))))) from (List.Perm.append_left ([(sp, .inr (13, [.int kd, .int (nI pl), .long nu, .ref na, .int (nI nn), .ref ln, .ref lt, .ref mk]))]) (List.perm_append_comm_assoc ([(mk, .inl (dA 1, kN, .inl (va_up fk gn.sz z2.qk)))]) (LqW dA ln gq) (VW dA h ad (VS.s_ll z4 (LqW dA lt gr ++ r))))).trans (List.perm_append_comm_assoc ([(sp, .inr (13, [.int kd, .int (nI pl), .long nu, .ref na, .int (nI nn), .ref ln, .ref lt, .ref mk]))]) (LqW dA ln gq) ([(mk, .inl (dA 1, kN, .inl (va_up fk gn.sz z2.qk)))] ++ (VW dA h ad (VS.s_ll z4 (LqW dA lt gr ++ r)))))) hD
                  have hP := pmP (show List.Perm (α := Nat × va_E) (LqW dA ln gq ++ ([(sp, .inr (13, [.int kd, .int (nI pl), .long nu, .ref na, .int (nI nn), .ref ln, .ref lt, .ref mk]))] ++ ([(mk, .inl (dA 1, kN, .inl (va_up fk gn.sz z2.qk)))] ++ (VW dA h ad (VS.s_ll z4 (LqW dA lt gr ++ r)))))) ([(sp, .inr (13, [.int kd, .int (nI pl), .long nu, .ref na, .int (nI nn), .ref ln, .ref lt, .ref mk]))] ++ ([(mk, .inl (dA 1, kN, .inl (va_up fk gn.sz z2.qk)))] ++ (VW dA h ad (VS.s_ll z4 (LqW dA ln gq ++ (LqW dA lt gr ++ r)))))) from (llF (F := [(sp, .inr (13, [.int kd, .int (nI pl), .long nu, .ref na, .int (nI nn), .ref ln, .ref lt, .ref mk]))]) (llF (F := [(mk, .inl (dA 1, kN, .inl (va_up fk gn.sz z2.qk)))]) (llP (dA := dA) (h := h) (ad := ad) (x := (VS.s_ll z4 (LqW dA ln gq ++ (LqW dA lt gr ++ r)))) (L := LqW dA ln gq) (r := (LqW dA lt gr ++ r)) rfl))).symm) hP
                  have hD := pmD (show List.Perm (α := Nat × va_E) (LqW dA ln gq ++ ([(sp, .inr (13, [.int kd, .int (nI pl), .long nu, .ref na, .int (nI nn), .ref ln, .ref lt, .ref mk]))] ++ ([(mk, .inl (dA 1, kN, .inl (va_up fk gn.sz z2.qk)))] ++ (VW dA h ad (VS.s_ll z4 (LqW dA lt gr ++ r)))))) ([(sp, .inr (13, [.int kd, .int (nI pl), .long nu, .ref na, .int (nI nn), .ref ln, .ref lt, .ref mk]))] ++ ([(mk, .inl (dA 1, kN, .inl (va_up fk gn.sz z2.qk)))] ++ (VW dA h ad (VS.s_ll z4 (LqW dA ln gq ++ (LqW dA lt gr ++ r)))))) from (llF (F := [(sp, .inr (13, [.int kd, .int (nI pl), .long nu, .ref na, .int (nI nn), .ref ln, .ref lt, .ref mk]))]) (llF (F := [(mk, .inl (dA 1, kN, .inl (va_up fk gn.sz z2.qk)))]) (llP (dA := dA) (h := h) (ad := ad) (x := (VS.s_ll z4 (LqW dA ln gq ++ (LqW dA lt gr ++ r)))) (L := LqW dA ln gq) (r := (LqW dA lt gr ++ r)) rfl))).symm) hD
                  have hP : va_P D vwCl ([(sp, .inr (13, [.int kd, .int (nI pl), .long nu, .ref na, .int (nI nn), .ref ln, .ref lt, .ref mk]))] ++ ([(mk, .inl (dA 1, kN, .inl (va_up fk gn.sz z2.qk)))] ++ (VW dA h ad (VS.s_ll z4 (LqW dA ln gq ++ (LqW dA lt gr ++ r)))))) H := hP
                  have hD : va_D A ([(sp, .inr (13, [.int kd, .int (nI pl), .long nu, .ref na, .int (nI nn), .ref ln, .ref lt, .ref mk]))] ++ ([(mk, .inl (dA 1, kN, .inl (va_up fk gn.sz z2.qk)))] ++ (VW dA h ad (VS.s_ll z4 (LqW dA ln gq ++ (LqW dA lt gr ++ r)))))) := hD
                  obtain ⟨z5, e_z5⟩ : ∃ w9, w9 = VS.s_ll z4 (LqW dA ln gq ++ (LqW dA lt gr ++ r)) := ⟨_, rfl⟩
                  rw [← e_z5] at hP hD
                  have hP : va_P D vwCl ([(sp, .inr (13, [.int kd, .int (nI pl), .long nu, .ref na, .int (nI nn), .ref ln, .ref lt, .ref mk]))] ++ ([(mk, .inl (dA 1, kN, .inl (va_up fk gn.sz z2.qk)))] ++ (VW dA h ad z5))) H := hP
                  have hD : va_D A ([(sp, .inr (13, [.int kd, .int (nI pl), .long nu, .ref na, .int (nI nn), .ref ln, .ref lt, .ref mk]))] ++ ([(mk, .inl (dA 1, kN, .inl (va_up fk gn.sz z2.qk)))] ++ (VW dA h ad z5))) := hD
                  have hk5 : z5.qok := by rw [e_z5]; exact qok_ll hk4
                  have q35 : x.qr z5 := by rw [e_z5]; exact qr_tr (qr_tr qp_z3 q34) ⟨rfl, fun _ h9 => h9⟩
                  have tt5 : z5.tk = nxT x.tape x.qlen (nxT x.tape x.qlen z.tk) := by rw [e_z5]; exact tk4
                  have hl5 : z5.ll = LqW dA ln gq ++ (LqW dA lt gr ++ r) := by rw [e_z5]
                  have ep5 : z5.pl = z4.pl := by rw [e_z5]
                  rw [← ep5] at w8 w7 wn1 wt1
                  have sz5 : z5.qst = z3.qst ∧ z5.qen = z3.qen := by rw [e_z5, e_z4]; exact ⟨rfl, rfl⟩
                  have wn2 := lwOk_s wn1 f_a1_24 w7 l9
                  have wt2 := lwOk_s wt1 f_a2_25 w8 l8
                  have lg2 := lq_s lg f_a1_24 (by omega)
                  have lt2 := lq_s lgt f_a2_25 (by have := wv.1; omega)
                  have en1 : gq.eN = gqN gn := f_a1_24.2.1
                  have en2 : gr.eN = gqN gt := f_a2_25.2.1
                  have kd2 := kd_s hkd im
                  rw [← tt_z2] at kd2
                  have kb_z5 : z5.qst ≤ z5.qen ∧ z5.qen ≤ z5.qlen ∧ z5.qlen ≤ z5.tpN ∧ z5.tpN ≤ 131072 ∧ z5.qlen ≤ 16384 := ⟨hk5.2.2.2.2.2.1, hk5.2.2.2.2.2.2.1, hk5.2.1, hk5.2.2.1, hk5.2.2.2.1⟩
                  have kq_z5 : z5.qtp = z5.tpA := hk5.1
                  have kf_z5 : z5.tape = x.tape ∧ z5.qlen = x.qlen := ⟨(qr_f q35).2.2.1, (qr_f q35).2.1⟩
                  have hPc : va_P D vwCl (VW dA h ad z5) H := spP (wr := [(sp, .inr (13, [.int kd, .int (nI pl), .long nu, .ref na, .int (nI nn), .ref ln, .ref lt, .ref mk]))] ++ ([(mk, .inl (dA 1, kN, .inl (va_up fk gn.sz z2.qk)))])) hP
                  have hDc : va_D A (VW dA h ad z5) := spD (wr := [(sp, .inr (13, [.int kd, .int (nI pl), .long nu, .ref na, .int (nI nn), .ref ln, .ref lt, .ref mk]))] ++ ([(mk, .inl (dA 1, kN, .inl (va_up fk gn.sz z2.qk)))])) hD
                  refine jkV (wr := [(sp, .inr (13, [.int kd, .int (nI pl), .long nu, .ref na, .int (nI nn), .ref ln, .ref lt, .ref mk]))] ++ ([(mk, .inl (dA 1, kN, .inl (va_up fk gn.sz z2.qk)))])) (rnV (As := []) (rest := []) hx hb hml hown hE hK (hN _ _ hS) hPc hDc (v_Qadvance l D dA H.size h ad z5 kq_z5 (show z5.qlen ≤ z5.tpN from by omega) (show z5.tpN ≤ 131072 from by omega) (show z5.qen ≤ z5.qlen from by omega)) (q0 := 36) rfl rfl w685 w684 w686 w687 w665 rfl rfl ⟨⟨by decide, by decide⟩, rfl⟩ ⟨(Nat.le_of_ble_eq_true rfl), (Nat.le_of_ble_eq_true rfl)⟩ rfl hl.1 rfl (Nat.le_of_ble_eq_true rfl) d_Q_readMatches_129 ⟨(show 4 * (z.qst - x.qst) + 2 + 0 + 0 + 0 + 1 + 1 + 2 + 0 ≤ 4 * (rqP x.rms.1 x.rms.2.1 - x.qst) by omega), (show 2 * (z.qst - x.qst) + 4 * gn.eN + 4 * gt.eN + 2 * kN + (1 + (z.qen - z.qst)) + 0 + 0 + 0 + 1 + ((z3.qen - 1) - (z3.qst + 1)) + (gqS gn + gqS gt) + 0 ≤ 12 * (rqP x.rms.1 x.rms.2.1 - x.qst) + 130 by omega)⟩) hP hD hS hA (fun u27 H locs hp9 hP hD hS => ?_)
                  obtain ⟨z6, h9u⟩ : ∃ z9, z9 = u27 := ⟨_, rfl⟩
                  subst h9u
                  have hP : va_P D vwCl ([(sp, .inr (13, [.int kd, .int (nI pl), .long nu, .ref na, .int (nI nn), .ref ln, .ref lt, .ref mk]))] ++ ([(mk, .inl (dA 1, kN, .inl (va_up fk gn.sz z2.qk)))] ++ (VW dA h ad z6))) H := hP
                  have hD : va_D A ([(sp, .inr (13, [.int kd, .int (nI pl), .long nu, .ref na, .int (nI nn), .ref ln, .ref lt, .ref mk]))] ++ ([(mk, .inl (dA 1, kN, .inl (va_up fk gn.sz z2.qk)))] ++ (VW dA h ad z6))) := hD
                  have f_e_28 := hp9
                  refine lv_aload_n hx hb d_Q_readMatches_132 rfl (lv_at hl 3 rfl) ?_
                  obtain ⟨hk_z6, qq_z6, tk_z6⟩ := qok_adv hk5 f_e_28
                  have qp_z6 := qr_tr q35 (qp_qr qq_z6)
                  have ml_z6 : z6.ll = z5.ll := qp_ll qq_z6
                  have tt_z6 : z6.tk = nxT x.tape x.qlen (nxT x.tape x.qlen (nxT x.tape x.qlen z.tk)) := by rw [tk_z6, kf_z5.1, kf_z5.2, tt5]
                  have kb_z6 : z6.qst ≤ z6.qen ∧ z6.qen ≤ z6.qlen ∧ z6.qlen ≤ z6.tpN ∧ z6.tpN ≤ 131072 ∧ z6.qlen ≤ 16384 := ⟨hk_z6.2.2.2.2.2.1, hk_z6.2.2.2.2.2.2.1, hk_z6.2.1, hk_z6.2.2.1, hk_z6.2.2.2.1⟩
                  have kq_z6 : z6.qtp = z6.tpA := hk_z6.1
                  have kf_z6 : z6.tape = x.tape ∧ z6.qlen = x.qlen := ⟨(qr_f qp_z6).2.2.1, (qr_f qp_z6).2.1⟩
                  have st_z6 : z5.qen ≤ z6.qst := by have e9 := (nx_ok (f := z5.tape) (n := z5.qlen) (t := z5.tk) hk5.2.2.2.2.2.2.1).2; rw [← tk_z6] at e9; exact e9
                  have wn3 := lwOk_m qq_z6.2 wn2
                  have wt3 := lwOk_m qq_z6.2 wt2
                  refine gF (v := .int z6.qk) hx hb hown hE hK hP 38 rfl rfl layQ 2 (by decide) w663 rfl d_Q_readMatches_133 ?_
                  refine lv_bipush (v := 44) hx hb d_Q_readMatches_136 (by decide) ?_
                  refine lv_icmp_eq hx hb d_Q_readMatches_138 (tgt := 143) rfl (fun g29 => ?_) (fun g29 => ?_)
                  · have g29 := g29
                    refine lv_aload_n hx hb d_Q_readMatches_143 rfl (lv_at hl 3 rfl) ?_
                    have hPc : va_P D vwCl (VW dA h ad z6) H := spP (wr := [(sp, .inr (13, [.int kd, .int (nI pl), .long nu, .ref na, .int (nI nn), .ref ln, .ref lt, .ref mk]))] ++ ([(mk, .inl (dA 1, kN, .inl (va_up fk gn.sz z2.qk)))])) hP
                    have hDc : va_D A (VW dA h ad z6) := spD (wr := [(sp, .inr (13, [.int kd, .int (nI pl), .long nu, .ref na, .int (nI nn), .ref ln, .ref lt, .ref mk]))] ++ ([(mk, .inl (dA 1, kN, .inl (va_up fk gn.sz z2.qk)))])) hD
                    refine jkV (wr := [(sp, .inr (13, [.int kd, .int (nI pl), .long nu, .ref na, .int (nI nn), .ref ln, .ref lt, .ref mk]))] ++ ([(mk, .inl (dA 1, kN, .inl (va_up fk gn.sz z2.qk)))])) (rnV (As := []) (rest := []) hx hb hml hown hE hK (hN _ _ hS) hPc hDc (v_Qadvance l D dA H.size h ad z6 kq_z6 (show z6.qlen ≤ z6.tpN from by omega) (show z6.tpN ≤ 131072 from by omega) (show z6.qen ≤ z6.qlen from by omega)) (q0 := 36) rfl rfl w685 w684 w686 w687 w665 rfl rfl ⟨⟨by decide, by decide⟩, rfl⟩ ⟨(Nat.le_of_ble_eq_true rfl), (Nat.le_of_ble_eq_true rfl)⟩ rfl hl.1 rfl (Nat.le_of_ble_eq_true rfl) d_Q_readMatches_144 ⟨(show 4 * (z.qst - x.qst) + 2 + 0 + 0 + 0 + 1 + 1 + 2 + 0 + 0 ≤ 4 * (rqP x.rms.1 x.rms.2.1 - x.qst) by omega), (show 2 * (z.qst - x.qst) + 4 * gn.eN + 4 * gt.eN + 2 * kN + (1 + (z.qen - z.qst)) + 0 + 0 + 0 + 1 + ((z3.qen - 1) - (z3.qst + 1)) + (gqS gn + gqS gt) + 0 + 0 ≤ 12 * (rqP x.rms.1 x.rms.2.1 - x.qst) + 130 by omega)⟩) hP hD hS hA (fun u31 H locs hp9 hP hD hS => ?_)
                    obtain ⟨z7, h9u⟩ : ∃ z9, z9 = u31 := ⟨_, rfl⟩
                    subst h9u
                    have hP : va_P D vwCl ([(sp, .inr (13, [.int kd, .int (nI pl), .long nu, .ref na, .int (nI nn), .ref ln, .ref lt, .ref mk]))] ++ ([(mk, .inl (dA 1, kN, .inl (va_up fk gn.sz z2.qk)))] ++ (VW dA h ad z7))) H := hP
                    have hD : va_D A ([(sp, .inr (13, [.int kd, .int (nI pl), .long nu, .ref na, .int (nI nn), .ref ln, .ref lt, .ref mk]))] ++ ([(mk, .inl (dA 1, kN, .inl (va_up fk gn.sz z2.qk)))] ++ (VW dA h ad z7))) := hD
                    have f_e_32 := hp9
                    obtain ⟨hk_z7, qq_z7, tk_z7⟩ := qok_adv hk_z6 f_e_32
                    have qp_z7 := qr_tr qp_z6 (qp_qr qq_z7)
                    have ml_z7 : z7.ll = z6.ll := qp_ll qq_z7
                    have tt_z7 : z7.tk = nxT x.tape x.qlen (nxT x.tape x.qlen (nxT x.tape x.qlen (nxT x.tape x.qlen z.tk))) := by rw [tk_z7, kf_z6.1, kf_z6.2, tt_z6]
                    have kb_z7 : z7.qst ≤ z7.qen ∧ z7.qen ≤ z7.qlen ∧ z7.qlen ≤ z7.tpN ∧ z7.tpN ≤ 131072 ∧ z7.qlen ≤ 16384 := ⟨hk_z7.2.2.2.2.2.1, hk_z7.2.2.2.2.2.2.1, hk_z7.2.1, hk_z7.2.2.1, hk_z7.2.2.2.1⟩
                    have kq_z7 : z7.qtp = z7.tpA := hk_z7.1
                    have kf_z7 : z7.tape = x.tape ∧ z7.qlen = x.qlen := ⟨(qr_f qp_z7).2.2.1, (qr_f qp_z7).2.1⟩
                    have st_z7 : z6.qen ≤ z7.qst := by have e9 := (nx_ok (f := z6.tape) (n := z6.qlen) (t := z6.tk) hk_z6.2.2.2.2.2.2.1).2; rw [← tk_z7] at e9; exact e9
                    have wn4 := lwOk_m qq_z7.2 wn3
                    have wt4 := lwOk_m qq_z7.2 wt3
                    refine lv_iinc (k := 2) (v := nI (i + 1)) hx hb d_Q_readMatches_147 hl rfl (iincN (i) 1 1 (by decide)) (by decide) rfl (fun ls hl => ?_)
                    have hl : lv_has ls 5 [(2, .int (nI (i + 1))), (4, .int z2.qk), (3, .ref wq), (0, .ref (ad 22)), (1, .ref sp)] := hl
                    refine lv_goto hx hb d_Q_readMatches_150 (tgt := 13) rfl ?_
                    refine W.widen (k := 4 * (z7.qst - x.qst)) (n := 2 * (z7.qst - x.qst) + 4 * gq.eN + 4 * gr.eN + 2 * kN) (show 4 * (z.qst - x.qst) + 2 + 0 + 0 + 0 + 1 + 1 + 2 + 0 + 0 ≤ 4 * (z7.qst - x.qst) from by omega) (show 2 * (z.qst - x.qst) + 4 * gn.eN + 4 * gt.eN + 2 * kN + (1 + (z.qen - z.qst)) + 0 + 0 + 0 + 1 + ((z3.qen - 1) - (z3.qst + 1)) + (gqS gn + gqS gt) + 0 + 0 ≤ 2 * (z7.qst - x.qst) + 4 * gq.eN + 4 * gr.eN + 2 * kN from by omega) ?_
                    exact ih13 _ (by omega) (i + 1) z7 mk kN (va_up fk gn.sz z2.qk) gq gr (va_up KD i z2.qk) (va_up MN i (tkw x.tape z.tk)) (va_up MT i (tkx x.tape (nxT x.tape x.qlen (nxT x.tape x.qlen z.tk)))) hk_z7 qp_z7 (ml_z7.trans (ml_z6.trans hl5)) lg2 lt2 wn4 wt4 (by rw [sz9]; exact kd2) (by omega) (by rw [en1]; exact gb1.1) (by rw [en2]; exact gb2.1) (by omega) (by rw [← er, rm_5 (w := x.qlen - i) (by omega) g3 im (by rw [← tt_z3]; exact g16) (by rw [← tt_z6]; exact g29), ← tt_z7, ← tt_z2, show x.qlen - i - 1 = x.qlen - (i + 1) by omega]; rfl) (by omega) rfl H _ ls hP hD hS (lv_sub hl [0, 3, 4] rfl)
                  · have g29 := g29
                    refine lv_iconst (v := 1) hx hb d_Q_readMatches_141 (by decide) ?_
                    have hP := pmP (show List.Perm (α := Nat × va_E) ([(sp, .inr (13, [.int kd, .int (nI pl), .long nu, .ref na, .int (nI nn), .ref ln, .ref lt, .ref mk]))] ++ ([(mk, .inl (dA 1, kN, .inl (va_up fk gn.sz z2.qk)))] ++ (VW dA h ad z6))) ([(mk, .inl (dA 1, kN, .inl (va_up fk gn.sz z2.qk)))] ++ ([(sp, .inr (13, [.int kd, .int (nI pl), .long nu, .ref na, .int (nI nn), .ref ln, .ref lt, .ref mk]))] ++ (VW dA h ad z6))) from List.perm_append_comm_assoc ([(sp, .inr (13, [.int kd, .int (nI pl), .long nu, .ref na, .int (nI nn), .ref ln, .ref lt, .ref mk]))]) ([(mk, .inl (dA 1, kN, .inl (va_up fk gn.sz z2.qk)))]) (VW dA h ad z6)) hP
                    have hD := pmD (show List.Perm (α := Nat × va_E) ([(sp, .inr (13, [.int kd, .int (nI pl), .long nu, .ref na, .int (nI nn), .ref ln, .ref lt, .ref mk]))] ++ ([(mk, .inl (dA 1, kN, .inl (va_up fk gn.sz z2.qk)))] ++ (VW dA h ad z6))) ([(mk, .inl (dA 1, kN, .inl (va_up fk gn.sz z2.qk)))] ++ ([(sp, .inr (13, [.int kd, .int (nI pl), .long nu, .ref na, .int (nI nn), .ref ln, .ref lt, .ref mk]))] ++ (VW dA h ad z6))) from List.perm_append_comm_assoc ([(sp, .inr (13, [.int kd, .int (nI pl), .long nu, .ref na, .int (nI nn), .ref ln, .ref lt, .ref mk]))]) ([(mk, .inl (dA 1, kN, .inl (va_up fk gn.sz z2.qk)))]) (VW dA h ad z6)) hD
                    exact rfZ hx hb hr (bI_nar true) hlk hS (⟨z6, mk, kN, va_up fk gn.sz z2.qk, gq, gr⟩) (by have E := (er.symm.trans (rm_4 (by omega) g3 im (by rw [← tt_z3]; exact g16) (by rw [← tt_z6]; exact g29))); have F1 : x.rms.1 = true := (by rw [E]); have F2 : x.rms.2.1 = nxT x.tape x.qlen (nxT x.tape x.qlen (nxT x.tape x.qlen z.tk)) := (by rw [E]); have F3 : x.rms.2.2.1 = i + 1 := (by rw [E]); have F4 : x.rms.2.2.2.1 = va_up KD i z2.qk := (by rw [E]; show va_up KD i (nxT x.tape x.qlen z.tk).1 = _; rw [← tt_z2]; rfl); have F5 : x.rms.2.2.2.2.1 = va_up MN i (tkw x.tape z.tk) := (by rw [E]); have F6 : x.rms.2.2.2.2.2 = va_up MT i (tkx x.tape (nxT x.tape x.qlen (nxT x.tape x.qlen z.tk))) := (by rw [E]); exact ⟨by rw [F1]; rfl, qp_z6, hk_z6, by rw [F2]; exact tt_z6, ml_z6.trans hl5, ⟨lg2, lt2⟩, by rw [F3, F5, F6]; exact ⟨wn3, wt3⟩, by rw [F3, F4]; rw [sz9]; exact kd2, by rw [F3]; exact ⟨show i + 1 ≤ kN by omega, show kN ≤ 262144 by omega⟩⟩) hP hD (show 4 * (z.qst - x.qst) + 2 + 0 + 0 + 0 + 1 + 1 + 2 + 0 ≤ 4 * (rqP x.rms.1 x.rms.2.1 - x.qst) by omega) (show 2 * (z.qst - x.qst) + 4 * gn.eN + 4 * gt.eN + 2 * kN + (1 + (z.qen - z.qst)) + 0 + 0 + 0 + 1 + ((z3.qen - 1) - (z3.qst + 1)) + (gqS gn + gqS gt) + 0 ≤ 12 * (rqP x.rms.1 x.rms.2.1 - x.qst) + 130 by omega) d_Q_readMatches_142
                · have hP := pmP (show List.Perm (α := Nat × va_E) ([(bx, .inl (dA 0, (z3.qen - 1) - (z3.qst + 1), .inl gx))] ++ ([(wx, .inr (10, [.ref bx]))] ++ ([(sp, .inr (13, [.int kd, .int (nI pl), .long nu, .ref na, .int (nI nn), .ref ln, .ref lt, .ref mk]))] ++ ([(mk, .inl (dA 1, kN, .inl fk))] ++ (VW dA h ad z3))))) ([(sp, .inr (13, [.int kd, .int (nI pl), .long nu, .ref na, .int (nI nn), .ref ln, .ref lt, .ref mk]))] ++ ([(bx, .inl (dA 0, (z3.qen - 1) - (z3.qst + 1), .inl gx))] ++ ([(wx, .inr (10, [.ref bx]))] ++ ([(mk, .inl (dA 1, kN, .inl fk))] ++ (VW dA h ad z3))))) from (List.Perm.append_left ([(bx, .inl (dA 0, (z3.qen - 1) - (z3.qst + 1), .inl gx))]) (List.perm_append_comm_assoc ([(wx, .inr (10, [.ref bx]))]) ([(sp, .inr (13, [.int kd, .int (nI pl), .long nu, .ref na, .int (nI nn), .ref ln, .ref lt, .ref mk]))]) ([(mk, .inl (dA 1, kN, .inl fk))] ++ (VW dA h ad z3)))).trans (List.perm_append_comm_assoc ([(bx, .inl (dA 0, (z3.qen - 1) - (z3.qst + 1), .inl gx))]) ([(sp, .inr (13, [.int kd, .int (nI pl), .long nu, .ref na, .int (nI nn), .ref ln, .ref lt, .ref mk]))]) ([(wx, .inr (10, [.ref bx]))] ++ ([(mk, .inl (dA 1, kN, .inl fk))] ++ (VW dA h ad z3))))) hP
                  have hD := pmD (show List.Perm (α := Nat × va_E) ([(bx, .inl (dA 0, (z3.qen - 1) - (z3.qst + 1), .inl gx))] ++ ([(wx, .inr (10, [.ref bx]))] ++ ([(sp, .inr (13, [.int kd, .int (nI pl), .long nu, .ref na, .int (nI nn), .ref ln, .ref lt, .ref mk]))] ++ ([(mk, .inl (dA 1, kN, .inl fk))] ++ (VW dA h ad z3))))) ([(sp, .inr (13, [.int kd, .int (nI pl), .long nu, .ref na, .int (nI nn), .ref ln, .ref lt, .ref mk]))] ++ ([(bx, .inl (dA 0, (z3.qen - 1) - (z3.qst + 1), .inl gx))] ++ ([(wx, .inr (10, [.ref bx]))] ++ ([(mk, .inl (dA 1, kN, .inl fk))] ++ (VW dA h ad z3))))) from (List.Perm.append_left ([(bx, .inl (dA 0, (z3.qen - 1) - (z3.qst + 1), .inl gx))]) (List.perm_append_comm_assoc ([(wx, .inr (10, [.ref bx]))]) ([(sp, .inr (13, [.int kd, .int (nI pl), .long nu, .ref na, .int (nI nn), .ref ln, .ref lt, .ref mk]))]) ([(mk, .inl (dA 1, kN, .inl fk))] ++ (VW dA h ad z3)))).trans (List.perm_append_comm_assoc ([(bx, .inl (dA 0, (z3.qen - 1) - (z3.qst + 1), .inl gx))]) ([(sp, .inr (13, [.int kd, .int (nI pl), .long nu, .ref na, .int (nI nn), .ref ln, .ref lt, .ref mk]))]) ([(wx, .inr (10, [.ref bx]))] ++ ([(mk, .inl (dA 1, kN, .inl fk))] ++ (VW dA h ad z3))))) hD
                  have hP := pmP (show List.Perm (α := Nat × va_E) ([(sp, .inr (13, [.int kd, .int (nI pl), .long nu, .ref na, .int (nI nn), .ref ln, .ref lt, .ref mk]))] ++ ([(bx, .inl (dA 0, (z3.qen - 1) - (z3.qst + 1), .inl gx))] ++ ([(wx, .inr (10, [.ref bx]))] ++ ([(mk, .inl (dA 1, kN, .inl fk))] ++ (VW dA h ad z3))))) ([(sp, .inr (13, [.int kd, .int (nI pl), .long nu, .ref na, .int (nI nn), .ref ln, .ref lt, .ref mk]))] ++ ([(mk, .inl (dA 1, kN, .inl fk))] ++ ([(bx, .inl (dA 0, (z3.qen - 1) - (z3.qst + 1), .inl gx))] ++ ([(wx, .inr (10, [.ref bx]))] ++ (VW dA h ad z3))))) from List.Perm.append_left ([(sp, .inr (13, [.int kd, .int (nI pl), .long nu, .ref na, .int (nI nn), .ref ln, .ref lt, .ref mk]))]) ((List.Perm.append_left ([(bx, .inl (dA 0, (z3.qen - 1) - (z3.qst + 1), .inl gx))]) (List.perm_append_comm_assoc ([(wx, .inr (10, [.ref bx]))]) ([(mk, .inl (dA 1, kN, .inl fk))]) (VW dA h ad z3))).trans (List.perm_append_comm_assoc ([(bx, .inl (dA 0, (z3.qen - 1) - (z3.qst + 1), .inl gx))]) ([(mk, .inl (dA 1, kN, .inl fk))]) ([(wx, .inr (10, [.ref bx]))] ++ (VW dA h ad z3))))) hP
                  have hD := pmD (show List.Perm (α := Nat × va_E) ([(sp, .inr (13, [.int kd, .int (nI pl), .long nu, .ref na, .int (nI nn), .ref ln, .ref lt, .ref mk]))] ++ ([(bx, .inl (dA 0, (z3.qen - 1) - (z3.qst + 1), .inl gx))] ++ ([(wx, .inr (10, [.ref bx]))] ++ ([(mk, .inl (dA 1, kN, .inl fk))] ++ (VW dA h ad z3))))) ([(sp, .inr (13, [.int kd, .int (nI pl), .long nu, .ref na, .int (nI nn), .ref ln, .ref lt, .ref mk]))] ++ ([(mk, .inl (dA 1, kN, .inl fk))] ++ ([(bx, .inl (dA 0, (z3.qen - 1) - (z3.qst + 1), .inl gx))] ++ ([(wx, .inr (10, [.ref bx]))] ++ (VW dA h ad z3))))) from List.Perm.append_left ([(sp, .inr (13, [.int kd, .int (nI pl), .long nu, .ref na, .int (nI nn), .ref ln, .ref lt, .ref mk]))]) ((List.Perm.append_left ([(bx, .inl (dA 0, (z3.qen - 1) - (z3.qst + 1), .inl gx))]) (List.perm_append_comm_assoc ([(wx, .inr (10, [.ref bx]))]) ([(mk, .inl (dA 1, kN, .inl fk))]) (VW dA h ad z3))).trans (List.perm_append_comm_assoc ([(bx, .inl (dA 0, (z3.qen - 1) - (z3.qst + 1), .inl gx))]) ([(mk, .inl (dA 1, kN, .inl fk))]) ([(wx, .inr (10, [.ref bx]))] ++ (VW dA h ad z3))))) hD
                  have hP : va_P D vwCl ([(sp, .inr (13, [.int kd, .int (nI pl), .long nu, .ref na, .int (nI nn), .ref ln, .ref lt, .ref mk]))] ++ ([(mk, .inl (dA 1, kN, .inl fk))] ++ (VW dA h ad (VS.s_pl z3 (z3.pl ++ ([(bx, .inl (dA 0, (z3.qen - 1) - (z3.qst + 1), .inl gx))] ++ ([(wx, .inr (10, [.ref bx]))]))))))) H := pmP (show List.Perm (α := Nat × va_E) ([(sp, .inr (13, [.int kd, .int (nI pl), .long nu, .ref na, .int (nI nn), .ref ln, .ref lt, .ref mk]))] ++ ([(mk, .inl (dA 1, kN, .inl fk))] ++ ([(bx, .inl (dA 0, (z3.qen - 1) - (z3.qst + 1), .inl gx))] ++ ([(wx, .inr (10, [.ref bx]))] ++ (VW dA h ad z3))))) ([(sp, .inr (13, [.int kd, .int (nI pl), .long nu, .ref na, .int (nI nn), .ref ln, .ref lt, .ref mk]))] ++ ([(mk, .inl (dA 1, kN, .inl fk))] ++ (VW dA h ad (VS.s_pl z3 (z3.pl ++ ([(bx, .inl (dA 0, (z3.qen - 1) - (z3.qst + 1), .inl gx))] ++ ([(wx, .inr (10, [.ref bx]))]))))))) from List.Perm.append_left ([(sp, .inr (13, [.int kd, .int (nI pl), .long nu, .ref na, .int (nI nn), .ref ln, .ref lt, .ref mk]))]) (List.Perm.append_left ([(mk, .inl (dA 1, kN, .inl fk))]) (plP2 (dA := dA) (h := h) (ad := ad) z3 ([(bx, .inl (dA 0, (z3.qen - 1) - (z3.qst + 1), .inl gx))]) ([(wx, .inr (10, [.ref bx]))])))) hP
                  have hD : va_D A ([(sp, .inr (13, [.int kd, .int (nI pl), .long nu, .ref na, .int (nI nn), .ref ln, .ref lt, .ref mk]))] ++ ([(mk, .inl (dA 1, kN, .inl fk))] ++ (VW dA h ad (VS.s_pl z3 (z3.pl ++ ([(bx, .inl (dA 0, (z3.qen - 1) - (z3.qst + 1), .inl gx))] ++ ([(wx, .inr (10, [.ref bx]))]))))))) := pmD (show List.Perm (α := Nat × va_E) ([(sp, .inr (13, [.int kd, .int (nI pl), .long nu, .ref na, .int (nI nn), .ref ln, .ref lt, .ref mk]))] ++ ([(mk, .inl (dA 1, kN, .inl fk))] ++ ([(bx, .inl (dA 0, (z3.qen - 1) - (z3.qst + 1), .inl gx))] ++ ([(wx, .inr (10, [.ref bx]))] ++ (VW dA h ad z3))))) ([(sp, .inr (13, [.int kd, .int (nI pl), .long nu, .ref na, .int (nI nn), .ref ln, .ref lt, .ref mk]))] ++ ([(mk, .inl (dA 1, kN, .inl fk))] ++ (VW dA h ad (VS.s_pl z3 (z3.pl ++ ([(bx, .inl (dA 0, (z3.qen - 1) - (z3.qst + 1), .inl gx))] ++ ([(wx, .inr (10, [.ref bx]))]))))))) from List.Perm.append_left ([(sp, .inr (13, [.int kd, .int (nI pl), .long nu, .ref na, .int (nI nn), .ref ln, .ref lt, .ref mk]))]) (List.Perm.append_left ([(mk, .inl (dA 1, kN, .inl fk))]) (plP2 (dA := dA) (h := h) (ad := ad) z3 ([(bx, .inl (dA 0, (z3.qen - 1) - (z3.qst + 1), .inl gx))]) ([(wx, .inr (10, [.ref bx]))])))) hD
                  obtain ⟨pl33, e_pl33⟩ : ∃ z, z = z3.pl ++ ([(bx, .inl (dA 0, (z3.qen - 1) - (z3.qst + 1), .inl gx))] ++ ([(wx, .inr (10, [.ref bx]))])) := ⟨_, rfl⟩
                  rw [← e_pl33] at hP hD
                  have s_pl33 : ∀ c, c ∈ z3.pl → c ∈ pl33 := by rw [e_pl33]; exact fun _ hm => List.mem_append_left _ hm
                  have t_pl33_0 : ((bx, .inl (dA 0, (z3.qen - 1) - (z3.qst + 1), .inl gx)) : Nat × va_E) ∈ pl33 := by rw [e_pl33]; exact List.mem_append_right _ (List.mem_of_getElem? (i := 0) rfl)
                  have t_pl33_1 : ((wx, .inr (10, [.ref bx])) : Nat × va_E) ∈ pl33 := by rw [e_pl33]; exact List.mem_append_right _ (List.mem_of_getElem? (i := 1) rfl)
                  have hP : va_P D vwCl ([(sp, .inr (13, [.int kd, .int (nI pl), .long nu, .ref na, .int (nI nn), .ref ln, .ref lt, .ref mk]))] ++ ([(mk, .inl (dA 1, kN, .inl fk))] ++ (VW dA h ad (VS.s_pl z3 pl33)))) H := hP
                  have hD : va_D A ([(sp, .inr (13, [.int kd, .int (nI pl), .long nu, .ref na, .int (nI nn), .ref ln, .ref lt, .ref mk]))] ++ ([(mk, .inl (dA 1, kN, .inl fk))] ++ (VW dA h ad (VS.s_pl z3 pl33)))) := hD
                  have w8 : isWo dA pl33 wx (tkx x.tape (nxT x.tape x.qlen (nxT x.tape x.qlen z.tk))) := by
                    rw [← tt_z3, ← kf_z3.1]
                    exact isWo_n t_pl33_1 t_pl33_0 f_y_19 (seg_len _ _ _) (fun k hk => (f_hg_20 k hk).trans (seg_get _ hk).symm)
                  have l8 : (tkx x.tape (nxT x.tape x.qlen (nxT x.tape x.qlen z.tk))).length ≤ 65536 := by rw [tkx_len, ← tt_z3]; show z3.qen - 1 - (z3.qst + 1) ≤ 65536; omega
                  have sb : ∀ c, c ∈ z.pl → c ∈ pl33 := fun c hc => s_pl33 c (qq_z3.2 c (qq_z2.2 c (qq_z1.2 c hc)))
                  have w7 := isWo_m (fun c hc => s_pl33 c (qq_z3.2 c (qq_z2.2 c hc))) w9
                  have wn1 := lwOk_m sb wn
                  have wt1 := lwOk_m sb wv
                  have gb1 := gq_b wn.1 lg.2.1 cn
                  have gb2 := gq_b wv.1 lgt.2.1 ct
                  have sz9 := wn.1
                  obtain ⟨z4, e_z4⟩ : ∃ w9, w9 = VS.s_pl z3 pl33 := ⟨_, rfl⟩
                  rw [← e_z4] at hP hD
                  have hP : va_P D vwCl ([(sp, .inr (13, [.int kd, .int (nI pl), .long nu, .ref na, .int (nI nn), .ref ln, .ref lt, .ref mk]))] ++ ([(mk, .inl (dA 1, kN, .inl fk))] ++ (VW dA h ad z4))) H := hP
                  have hD : va_D A ([(sp, .inr (13, [.int kd, .int (nI pl), .long nu, .ref na, .int (nI nn), .ref ln, .ref lt, .ref mk]))] ++ ([(mk, .inl (dA 1, kN, .inl fk))] ++ (VW dA h ad z4))) := hD
                  have hl4 : z4.ll = LqW dA ln gn ++ (LqW dA lt gt ++ r) := by rw [e_z4]; exact ml_z3.trans (ml_z2.trans (ml_z1.trans hlz))
                  have hk4 : z4.qok := by rw [e_z4]; exact hk_z3
                  have q34 : z3.qr z4 := by rw [e_z4]; exact ⟨rfl, s_pl33⟩
                  have ep4 : z4.pl = pl33 := by rw [e_z4]
                  have tk4 : z4.tk = nxT x.tape x.qlen (nxT x.tape x.qlen z.tk) := by rw [e_z4]; exact tt_z3
                  rw [← ep4] at w8 w7 wn1 wt1
                  have hP := pmP (show List.Perm (α := Nat × va_E) ([(sp, .inr (13, [.int kd, .int (nI pl), .long nu, .ref na, .int (nI nn), .ref ln, .ref lt, .ref mk]))] ++ ([(mk, .inl (dA 1, kN, .inl fk))] ++ (VW dA h ad z4))) (LqW dA ln gn ++ ([(sp, .inr (13, [.int kd, .int (nI pl), .long nu, .ref na, .int (nI nn), .ref ln, .ref lt, .ref mk]))] ++ ([(mk, .inl (dA 1, kN, .inl fk))] ++ (VW dA h ad (VS.s_ll z4 (LqW dA lt gt ++ r)))))) from llF (F := [(sp, .inr (13, [.int kd, .int (nI pl), .long nu, .ref na, .int (nI nn), .ref ln, .ref lt, .ref mk]))]) (llF (F := [(mk, .inl (dA 1, kN, .inl fk))]) (llP (dA := dA) (h := h) (ad := ad) (x := z4) (L := LqW dA ln gn) (r := (LqW dA lt gt ++ r)) hl4))) hP
                  have hD := pmD (show List.Perm (α := Nat × va_E) ([(sp, .inr (13, [.int kd, .int (nI pl), .long nu, .ref na, .int (nI nn), .ref ln, .ref lt, .ref mk]))] ++ ([(mk, .inl (dA 1, kN, .inl fk))] ++ (VW dA h ad z4))) (LqW dA ln gn ++ ([(sp, .inr (13, [.int kd, .int (nI pl), .long nu, .ref na, .int (nI nn), .ref ln, .ref lt, .ref mk]))] ++ ([(mk, .inl (dA 1, kN, .inl fk))] ++ (VW dA h ad (VS.s_ll z4 (LqW dA lt gt ++ r)))))) from llF (F := [(sp, .inr (13, [.int kd, .int (nI pl), .long nu, .ref na, .int (nI nn), .ref ln, .ref lt, .ref mk]))]) (llF (F := [(mk, .inl (dA 1, kN, .inl fk))]) (llP (dA := dA) (h := h) (ad := ad) (x := z4) (L := LqW dA ln gn) (r := (LqW dA lt gt ++ r)) hl4))) hD
                  have hP : va_P D vwCl (LqW dA ln gn ++ ([(sp, .inr (13, [.int kd, .int (nI pl), .long nu, .ref na, .int (nI nn), .ref ln, .ref lt, .ref mk]))] ++ ([(mk, .inl (dA 1, kN, .inl fk))] ++ (VW dA h ad (VS.s_ll z4 (LqW dA lt gt ++ r)))))) H := hP
                  have hD : va_D A (LqW dA ln gn ++ ([(sp, .inr (13, [.int kd, .int (nI pl), .long nu, .ref na, .int (nI nn), .ref ln, .ref lt, .ref mk]))] ++ ([(mk, .inl (dA 1, kN, .inl fk))] ++ (VW dA h ad (VS.s_ll z4 (LqW dA lt gt ++ r)))))) := hD
                  have hP := pmP (show List.Perm (α := Nat × va_E) (LqW dA ln gn ++ ([(sp, .inr (13, [.int kd, .int (nI pl), .long nu, .ref na, .int (nI nn), .ref ln, .ref lt, .ref mk]))] ++ ([(mk, .inl (dA 1, kN, .inl fk))] ++ (VW dA h ad (VS.s_ll z4 (LqW dA lt gt ++ r)))))) (LqW dA lt gt ++ (LqW dA ln gn ++ ([(sp, .inr (13, [.int kd, .int (nI pl), .long nu, .ref na, .int (nI nn), .ref ln, .ref lt, .ref mk]))] ++ ([(mk, .inl (dA 1, kN, .inl fk))] ++ (VW dA h ad (VS.s_ll z4 r)))))) from llF (F := LqW dA ln gn) (llF (F := [(sp, .inr (13, [.int kd, .int (nI pl), .long nu, .ref na, .int (nI nn), .ref ln, .ref lt, .ref mk]))]) (llF (F := [(mk, .inl (dA 1, kN, .inl fk))]) (llP (dA := dA) (h := h) (ad := ad) (x := (VS.s_ll z4 (LqW dA lt gt ++ r))) (L := LqW dA lt gt) (r := r) rfl)))) hP
                  have hD := pmD (show List.Perm (α := Nat × va_E) (LqW dA ln gn ++ ([(sp, .inr (13, [.int kd, .int (nI pl), .long nu, .ref na, .int (nI nn), .ref ln, .ref lt, .ref mk]))] ++ ([(mk, .inl (dA 1, kN, .inl fk))] ++ (VW dA h ad (VS.s_ll z4 (LqW dA lt gt ++ r)))))) (LqW dA lt gt ++ (LqW dA ln gn ++ ([(sp, .inr (13, [.int kd, .int (nI pl), .long nu, .ref na, .int (nI nn), .ref ln, .ref lt, .ref mk]))] ++ ([(mk, .inl (dA 1, kN, .inl fk))] ++ (VW dA h ad (VS.s_ll z4 r)))))) from llF (F := LqW dA ln gn) (llF (F := [(sp, .inr (13, [.int kd, .int (nI pl), .long nu, .ref na, .int (nI nn), .ref ln, .ref lt, .ref mk]))]) (llF (F := [(mk, .inl (dA 1, kN, .inl fk))]) (llP (dA := dA) (h := h) (ad := ad) (x := (VS.s_ll z4 (LqW dA lt gt ++ r))) (L := LqW dA lt gt) (r := r) rfl)))) hD
                  have hP : va_P D vwCl (LqW dA lt gt ++ (LqW dA ln gn ++ ([(sp, .inr (13, [.int kd, .int (nI pl), .long nu, .ref na, .int (nI nn), .ref ln, .ref lt, .ref mk]))] ++ ([(mk, .inl (dA 1, kN, .inl fk))] ++ (VW dA h ad (VS.s_ll z4 r)))))) H := hP
                  have hD : va_D A (LqW dA lt gt ++ (LqW dA ln gn ++ ([(sp, .inr (13, [.int kd, .int (nI pl), .long nu, .ref na, .int (nI nn), .ref ln, .ref lt, .ref mk]))] ++ ([(mk, .inl (dA 1, kN, .inl fk))] ++ (VW dA h ad (VS.s_ll z4 r)))))) := hD
                  have hP := pmP (show List.Perm (α := Nat × va_E) (LqW dA lt gt ++ (LqW dA ln gn ++ ([(sp, .inr (13, [.int kd, .int (nI pl), .long nu, .ref na, .int (nI nn), .ref ln, .ref lt, .ref mk]))] ++ ([(mk, .inl (dA 1, kN, .inl fk))] ++ (VW dA h ad (VS.s_ll z4 r)))))) ([(sp, .inr (13, [.int kd, .int (nI pl), .long nu, .ref na, .int (nI nn), .ref ln, .ref lt, .ref mk]))] ++ (LqW dA lt gt ++ (LqW dA ln gn ++ ([(mk, .inl (dA 1, kN, .inl fk))] ++ (VW dA h ad (VS.s_ll z4 r)))))) from (List.Perm.append_left (LqW dA lt gt) (List.perm_append_comm_assoc (LqW dA ln gn) ([(sp, .inr (13, [.int kd, .int (nI pl), .long nu, .ref na, .int (nI nn), .ref ln, .ref lt, .ref mk]))]) ([(mk, .inl (dA 1, kN, .inl fk))] ++ (VW dA h ad (VS.s_ll z4 r))))).trans (List.perm_append_comm_assoc (LqW dA lt gt) ([(sp, .inr (13, [.int kd, .int (nI pl), .long nu, .ref na, .int (nI nn), .ref ln, .ref lt, .ref mk]))]) (LqW dA ln gn ++ ([(mk, .inl (dA 1, kN, .inl fk))] ++ (VW dA h ad (VS.s_ll z4 r)))))) hP
                  have hD := pmD (show List.Perm (α := Nat × va_E) (LqW dA lt gt ++ (LqW dA ln gn ++ ([(sp, .inr (13, [.int kd, .int (nI pl), .long nu, .ref na, .int (nI nn), .ref ln, .ref lt, .ref mk]))] ++ ([(mk, .inl (dA 1, kN, .inl fk))] ++ (VW dA h ad (VS.s_ll z4 r)))))) ([(sp, .inr (13, [.int kd, .int (nI pl), .long nu, .ref na, .int (nI nn), .ref ln, .ref lt, .ref mk]))] ++ (LqW dA lt gt ++ (LqW dA ln gn ++ ([(mk, .inl (dA 1, kN, .inl fk))] ++ (VW dA h ad (VS.s_ll z4 r)))))) from (List.Perm.append_left (LqW dA lt gt) (List.perm_append_comm_assoc (LqW dA ln gn) ([(sp, .inr (13, [.int kd, .int (nI pl), .long nu, .ref na, .int (nI nn), .ref ln, .ref lt, .ref mk]))]) ([(mk, .inl (dA 1, kN, .inl fk))] ++ (VW dA h ad (VS.s_ll z4 r))))).trans (List.perm_append_comm_assoc (LqW dA lt gt) ([(sp, .inr (13, [.int kd, .int (nI pl), .long nu, .ref na, .int (nI nn), .ref ln, .ref lt, .ref mk]))]) (LqW dA ln gn ++ ([(mk, .inl (dA 1, kN, .inl fk))] ++ (VW dA h ad (VS.s_ll z4 r)))))) hD
                  have hP := pmP (show List.Perm (α := Nat × va_E) ([(sp, .inr (13, [.int kd, .int (nI pl), .long nu, .ref na, .int (nI nn), .ref ln, .ref lt, .ref mk]))] ++ (LqW dA lt gt ++ (LqW dA ln gn ++ ([(mk, .inl (dA 1, kN, .inl fk))] ++ (VW dA h ad (VS.s_ll z4 r)))))) ([(sp, .inr (13, [.int kd, .int (nI pl), .long nu, .ref na, .int (nI nn), .ref ln, .ref lt, .ref mk]))] ++ ([(mk, .inl (dA 1, kN, .inl fk))] ++ (LqW dA lt gt ++ (LqW dA ln gn ++ (VW dA h ad (VS.s_ll z4 r)))))) from List.Perm.append_left ([(sp, .inr (13, [.int kd, .int (nI pl), .long nu, .ref na, .int (nI nn), .ref ln, .ref lt, .ref mk]))]) ((List.Perm.append_left (LqW dA lt gt) (List.perm_append_comm_assoc (LqW dA ln gn) ([(mk, .inl (dA 1, kN, .inl fk))]) (VW dA h ad (VS.s_ll z4 r)))).trans (List.perm_append_comm_assoc (LqW dA lt gt) ([(mk, .inl (dA 1, kN, .inl fk))]) (LqW dA ln gn ++ (VW dA h ad (VS.s_ll z4 r)))))) hP
                  have hD := pmD (show List.Perm (α := Nat × va_E) ([(sp, .inr (13, [.int kd, .int (nI pl), .long nu, .ref na, .int (nI nn), .ref ln, .ref lt, .ref mk]))] ++ (LqW dA lt gt ++ (LqW dA ln gn ++ ([(mk, .inl (dA 1, kN, .inl fk))] ++ (VW dA h ad (VS.s_ll z4 r)))))) ([(sp, .inr (13, [.int kd, .int (nI pl), .long nu, .ref na, .int (nI nn), .ref ln, .ref lt, .ref mk]))] ++ ([(mk, .inl (dA 1, kN, .inl fk))] ++ (LqW dA lt gt ++ (LqW dA ln gn ++ (VW dA h ad (VS.s_ll z4 r)))))) from List.Perm.append_left ([(sp, .inr (13, [.int kd, .int (nI pl), .long nu, .ref na, .int (nI nn), .ref ln, .ref lt, .ref mk]))]) ((List.Perm.append_left (LqW dA lt gt) (List.perm_append_comm_assoc (LqW dA ln gn) ([(mk, .inl (dA 1, kN, .inl fk))]) (VW dA h ad (VS.s_ll z4 r)))).trans (List.perm_append_comm_assoc (LqW dA lt gt) ([(mk, .inl (dA 1, kN, .inl fk))]) (LqW dA ln gn ++ (VW dA h ad (VS.s_ll z4 r)))))) hD
                  have hP := pmP (show List.Perm (α := Nat × va_E) ([(sp, .inr (13, [.int kd, .int (nI pl), .long nu, .ref na, .int (nI nn), .ref ln, .ref lt, .ref mk]))] ++ ([(mk, .inl (dA 1, kN, .inl fk))] ++ (LqW dA lt gt ++ (LqW dA ln gn ++ (VW dA h ad (VS.s_ll z4 r)))))) ([(sp, .inr (13, [.int kd, .int (nI pl), .long nu, .ref na, .int (nI nn), .ref ln, .ref lt, .ref mk]))] ++ ([(mk, .inl (dA 1, kN, .inl fk))] ++ (LqW dA ln gn ++ (LqW dA lt gt ++ (VW dA h ad (VS.s_ll z4 r)))))) from List.Perm.append_left ([(sp, .inr (13, [.int kd, .int (nI pl), .long nu, .ref na, .int (nI nn), .ref ln, .ref lt, .ref mk]))]) (List.Perm.append_left ([(mk, .inl (dA 1, kN, .inl fk))]) (List.perm_append_comm_assoc (LqW dA lt gt) (LqW dA ln gn) (VW dA h ad (VS.s_ll z4 r))))) hP
                  have hD := pmD (show List.Perm (α := Nat × va_E) ([(sp, .inr (13, [.int kd, .int (nI pl), .long nu, .ref na, .int (nI nn), .ref ln, .ref lt, .ref mk]))] ++ ([(mk, .inl (dA 1, kN, .inl fk))] ++ (LqW dA lt gt ++ (LqW dA ln gn ++ (VW dA h ad (VS.s_ll z4 r)))))) ([(sp, .inr (13, [.int kd, .int (nI pl), .long nu, .ref na, .int (nI nn), .ref ln, .ref lt, .ref mk]))] ++ ([(mk, .inl (dA 1, kN, .inl fk))] ++ (LqW dA ln gn ++ (LqW dA lt gt ++ (VW dA h ad (VS.s_ll z4 r)))))) from List.Perm.append_left ([(sp, .inr (13, [.int kd, .int (nI pl), .long nu, .ref na, .int (nI nn), .ref ln, .ref lt, .ref mk]))]) (List.Perm.append_left ([(mk, .inl (dA 1, kN, .inl fk))]) (List.perm_append_comm_assoc (LqW dA lt gt) (LqW dA ln gn) (VW dA h ad (VS.s_ll z4 r))))) hD
                  refine jkV (wr := []) (rnVy (As := [.int z2.qk, .ref wq, .ref wx]) (rest := []) hx hb hml hown hE hK hZ hT hM hS (hN _ _ hS) hP hD (v_EaddMatchQ_k l D dA H.size e0 mi (VW dA h ad (VS.s_ll z4 r)) sp kd pl nu na nn ln lt mk kN fk gn gt z2.qk wq wx (tkw x.tape z.tk) (tkx x.tape (nxT x.tape x.qlen (nxT x.tape x.qlen z.tk))) (isWo_m (fun _ hm => (plm hm)) w7) (isWo_m (fun _ hm => (plm hm)) w8) lg lgt (fun i hi y hy => by obtain ⟨vs, hv⟩ := wn1.2.2 i hi y hy; exact ⟨vs, plm (x := VS.s_ll z4 r) hv⟩) (fun i hi y hy => by obtain ⟨vs, hv⟩ := wt1.2.2 i hi y hy; exact ⟨vs, plm (x := VS.s_ll z4 r) hv⟩) (show gn.sz ≤ 16384 from by omega) (show kN ≤ 40000 from by omega) (show gn.sz = kN from by omega)) (q0 := 0) rfl rfl w1642 w1641 w1643 w1644 w1496 rfl rfl ⟨⟨by decide, by decide⟩, rfl⟩ ⟨(Nat.le_of_ble_eq_true rfl), (Nat.le_of_ble_eq_true rfl)⟩ rfl hl.1 rfl (Nat.le_of_ble_eq_true rfl) d_Q_readMatches_125 ⟨(show 4 * (z.qst - x.qst) + 2 + 0 + 0 + 0 + 1 + 1 + 3 ≤ 4 * (rqP x.rms.1 x.rms.2.1 - x.qst) by omega), (show 2 * (z.qst - x.qst) + 4 * gn.eN + 4 * gt.eN + 2 * kN + (1 + (z.qen - z.qst)) + 0 + 0 + 0 + 1 + ((z3.qen - 1) - (z3.qst + 1)) + (2 * gn.sz + 2 + gqS gn + gqS gt) ≤ 12 * (rqP x.rms.1 x.rms.2.1 - x.qst) + 130 by omega)⟩) hP hD hS hA (fun u35 H locs hp9 hP hD hS => ?_)
                  obtain ⟨gq, gr, q0⟩ := u35
                  have hP : va_P D vwCl ([(q0, .inl (dA 1, 2 * gn.sz + 2, .inl (va_up (va_cpy fk (fun _ => 0) 0 0 (min kN (2 * gn.sz + 2))) gn.sz z2.qk)))] ++ ([(sp, .inr (13, [.int kd, .int (nI pl), .long nu, .ref na, .int (nI nn), .ref ln, .ref lt, .ref q0]))] ++ (LqW dA ln gq ++ (LqW dA lt gr ++ (VW dA h ad (VS.s_ll z4 r)))))) H := hP
                  have hD : va_D A ([(q0, .inl (dA 1, 2 * gn.sz + 2, .inl (va_up (va_cpy fk (fun _ => 0) 0 0 (min kN (2 * gn.sz + 2))) gn.sz z2.qk)))] ++ ([(sp, .inr (13, [.int kd, .int (nI pl), .long nu, .ref na, .int (nI nn), .ref ln, .ref lt, .ref q0]))] ++ (LqW dA ln gq ++ (LqW dA lt gr ++ (VW dA h ad (VS.s_ll z4 r)))))) := hD
                  obtain ⟨f_a1_36, f_a2_37⟩ := hp9
                  refine lv_aload_n hx hb d_Q_readMatches_128 rfl (lv_at hl 3 rfl) ?_
                  have hP := pmP (show List.Perm (α := Nat × va_E) ([(q0, .inl (dA 1, 2 * gn.sz + 2, .inl (va_up (va_cpy fk (fun _ => 0) 0 0 (min kN (2 * gn.sz + 2))) gn.sz z2.qk)))] ++ ([(sp, .inr (13, [.int kd, .int (nI pl), .long nu, .ref na, .int (nI nn), .ref ln, .ref lt, .ref q0]))] ++ (LqW dA ln gq ++ (LqW dA lt gr ++ (VW dA h ad (VS.s_ll z4 r)))))) (LqW dA lt gr ++ ([(q0, .inl (dA 1, 2 * gn.sz + 2, .inl (va_up (va_cpy fk (fun _ => 0) 0 0 (min kN (2 * gn.sz + 2))) gn.sz z2.qk)))] ++ ([(sp, .inr (13, [.int kd, .int (nI pl), .long nu, .ref na, .int (nI nn), .ref ln, .ref lt, .ref q0]))] ++ (LqW dA ln gq ++ (VW dA h ad (VS.s_ll z4 r)))))) from (List.Perm.append_left ([(q0, .inl (dA 1, 2 * gn.sz + 2, .inl (va_up (va_cpy fk (fun _ => 0) 0 0 (min kN (2 * gn.sz + 2))) gn.sz z2.qk)))]) ((List.Perm.append_left ([(sp, .inr (13, [.int kd, .int (nI pl), .long nu, .ref na, .int (nI nn), .ref ln, .ref lt, .ref q0]))]) (List.perm_append_comm_assoc (LqW dA ln gq) (LqW dA lt gr) (VW dA h ad (VS.s_ll z4 r)))).trans (List.perm_append_comm_assoc ([(sp, .inr (13, [.int kd, .int (nI pl), .long nu, .ref na, .int (nI nn), .ref ln, .ref lt, .ref q0]))]) (LqW dA lt gr) (LqW dA ln gq ++ (VW dA h ad (VS.s_ll z4 r)))))).trans (List.perm_append_comm_assoc ([(q0, .inl (dA 1, 2 * gn.sz + 2, .inl (va_up (va_cpy fk (fun _ => 0) 0 0 (min kN (2 * gn.sz + 2))) gn.sz z2.qk)))]) (LqW dA lt gr) ([(sp, .inr (13, [.int kd, .int (nI pl), .long nu, .ref na, .int (nI nn), .ref ln, .ref lt, .ref q0]))] ++ (LqW dA ln gq ++ (VW dA h ad (VS.s_ll z4 r)))))) hP
                  have hD := pmD (show List.Perm (α := Nat × va_E) ([(q0, .inl (dA 1, 2 * gn.sz + 2, .inl (va_up (va_cpy fk (fun _ => 0) 0 0 (min kN (2 * gn.sz + 2))) gn.sz z2.qk)))] ++ ([(sp, .inr (13, [.int kd, .int (nI pl), .long nu, .ref na, .int (nI nn), .ref ln, .ref lt, .ref q0]))] ++ (LqW dA ln gq ++ (LqW dA lt gr ++ (VW dA h ad (VS.s_ll z4 r)))))) (LqW dA lt gr ++ ([(q0, .inl (dA 1, 2 * gn.sz + 2, .inl (va_up (va_cpy fk (fun _ => 0) 0 0 (min kN (2 * gn.sz + 2))) gn.sz z2.qk)))] ++ ([(sp, .inr (13, [.int kd, .int (nI pl), .long nu, .ref na, .int (nI nn), .ref ln, .ref lt, .ref q0]))] ++ (LqW dA ln gq ++ (VW dA h ad (VS.s_ll z4 r)))))) from (List.Perm.append_left ([(q0, .inl (dA 1, 2 * gn.sz + 2, .inl (va_up (va_cpy fk (fun _ => 0) 0 0 (min kN (2 * gn.sz + 2))) gn.sz z2.qk)))]) ((List.Perm.append_left ([(sp, .inr (13, [.int kd, .int (nI pl), .long nu, .ref na, .int (nI nn), .ref ln, .ref lt, .ref q0]))]) (List.perm_append_comm_assoc (LqW dA ln gq) (LqW dA lt gr) (VW dA h ad (VS.s_ll z4 r)))).trans (List.perm_append_comm_assoc ([(sp, .inr (13, [.int kd, .int (nI pl), .long nu, .ref na, .int (nI nn), .ref ln, .ref lt, .ref q0]))]) (LqW dA lt gr) (LqW dA ln gq ++ (VW dA h ad (VS.s_ll z4 r)))))).trans (List.perm_append_comm_assoc ([(q0, .inl (dA 1, 2 * gn.sz + 2, .inl (va_up (va_cpy fk (fun _ => 0) 0 0 (min kN (2 * gn.sz + 2))) gn.sz z2.qk)))]) (LqW dA lt gr) ([(sp, .inr (13, [.int kd, .int (nI pl), .long nu, .ref na, .int (nI nn), .ref ln, .ref lt, .ref q0]))] ++ (LqW dA ln gq ++ (VW dA h ad (VS.s_ll z4 r)))))) hD
                  have hP := pmP (show List.Perm (α := Nat × va_E) (LqW dA lt gr ++ ([(q0, .inl (dA 1, 2 * gn.sz + 2, .inl (va_up (va_cpy fk (fun _ => 0) 0 0 (min kN (2 * gn.sz + 2))) gn.sz z2.qk)))] ++ ([(sp, .inr (13, [.int kd, .int (nI pl), .long nu, .ref na, .int (nI nn), .ref ln, .ref lt, .ref q0]))] ++ (LqW dA ln gq ++ (VW dA h ad (VS.s_ll z4 r)))))) ([(q0, .inl (dA 1, 2 * gn.sz + 2, .inl (va_up (va_cpy fk (fun _ => 0) 0 0 (min kN (2 * gn.sz + 2))) gn.sz z2.qk)))] ++ ([(sp, .inr (13, [.int kd, .int (nI pl), .long nu, .ref na, .int (nI nn), .ref ln, .ref lt, .ref q0]))] ++ (LqW dA ln gq ++ (VW dA h ad (VS.s_ll z4 (LqW dA lt gr ++ r)))))) from (llF (F := [(q0, .inl (dA 1, 2 * gn.sz + 2, .inl (va_up (va_cpy fk (fun _ => 0) 0 0 (min kN (2 * gn.sz + 2))) gn.sz z2.qk)))]) (llF (F := [(sp, .inr (13, [.int kd, .int (nI pl), .long nu, .ref na, .int (nI nn), .ref ln, .ref lt, .ref q0]))]) (llF (F := LqW dA ln gq) (llP (dA := dA) (h := h) (ad := ad) (x := (VS.s_ll z4 (LqW dA lt gr ++ r))) (L := LqW dA lt gr) (r := r) rfl)))).symm) hP
                  have hD := pmD (show List.Perm (α := Nat × va_E) (LqW dA lt gr ++ ([(q0, .inl (dA 1, 2 * gn.sz + 2, .inl (va_up (va_cpy fk (fun _ => 0) 0 0 (min kN (2 * gn.sz + 2))) gn.sz z2.qk)))] ++ ([(sp, .inr (13, [.int kd, .int (nI pl), .long nu, .ref na, .int (nI nn), .ref ln, .ref lt, .ref q0]))] ++ (LqW dA ln gq ++ (VW dA h ad (VS.s_ll z4 r)))))) ([(q0, .inl (dA 1, 2 * gn.sz + 2, .inl (va_up (va_cpy fk (fun _ => 0) 0 0 (min kN (2 * gn.sz + 2))) gn.sz z2.qk)))] ++ ([(sp, .inr (13, [.int kd, .int (nI pl), .long nu, .ref na, .int (nI nn), .ref ln, .ref lt, .ref q0]))] ++ (LqW dA ln gq ++ (VW dA h ad (VS.s_ll z4 (LqW dA lt gr ++ r)))))) from (llF (F := [(q0, .inl (dA 1, 2 * gn.sz + 2, .inl (va_up (va_cpy fk (fun _ => 0) 0 0 (min kN (2 * gn.sz + 2))) gn.sz z2.qk)))]) (llF (F := [(sp, .inr (13, [.int kd, .int (nI pl), .long nu, .ref na, .int (nI nn), .ref ln, .ref lt, .ref q0]))]) (llF (F := LqW dA ln gq) (llP (dA := dA) (h := h) (ad := ad) (x := (VS.s_ll z4 (LqW dA lt gr ++ r))) (L := LqW dA lt gr) (r := r) rfl)))).symm) hD
                  have hP : va_P D vwCl ([(q0, .inl (dA 1, 2 * gn.sz + 2, .inl (va_up (va_cpy fk (fun _ => 0) 0 0 (min kN (2 * gn.sz + 2))) gn.sz z2.qk)))] ++ ([(sp, .inr (13, [.int kd, .int (nI pl), .long nu, .ref na, .int (nI nn), .ref ln, .ref lt, .ref q0]))] ++ (LqW dA ln gq ++ (VW dA h ad (VS.s_ll z4 (LqW dA lt gr ++ r)))))) H := hP
                  have hD : va_D A ([(q0, .inl (dA 1, 2 * gn.sz + 2, .inl (va_up (va_cpy fk (fun _ => 0) 0 0 (min kN (2 * gn.sz + 2))) gn.sz z2.qk)))] ++ ([(sp, .inr (13, [.int kd, .int (nI pl), .long nu, .ref na, .int (nI nn), .ref ln, .ref lt, .ref q0]))] ++ (LqW dA ln gq ++ (VW dA h ad (VS.s_ll z4 (LqW dA lt gr ++ r)))))) := hD
                  have hP := pmP (show List.Perm (α := Nat × va_E) ([(q0, .inl (dA 1, 2 * gn.sz + 2, .inl (va_up (va_cpy fk (fun _ => 0) 0 0 (min kN (2 * gn.sz + 2))) gn.sz z2.qk)))] ++ ([(sp, .inr (13, [.int kd, .int (nI pl), .long nu, .ref na, .int (nI nn), .ref ln, .ref lt, .ref q0]))] ++ (LqW dA ln gq ++ (VW dA h ad (VS.s_ll z4 (LqW dA lt gr ++ r)))))) (LqW dA ln gq ++ ([(q0, .inl (dA 1, 2 * gn.sz + 2, .inl (va_up (va_cpy fk (fun _ => 0) 0 0 (min kN (2 * gn.sz + 2))) gn.sz z2.qk)))] ++ ([(sp, .inr (13, [.int kd, .int (nI pl), .long nu, .ref na, .int (nI nn), .ref ln, .ref lt, .ref q0]))] ++ (VW dA h ad (VS.s_ll z4 (LqW dA lt gr ++ r)))))) from (List.Perm.append_left ([(q0, .inl (dA 1, 2 * gn.sz + 2, .inl (va_up (va_cpy fk (fun _ => 0) 0 0 (min kN (2 * gn.sz + 2))) gn.sz z2.qk)))]) (List.perm_append_comm_assoc ([(sp, .inr (13, [.int kd, .int (nI pl), .long nu, .ref na, .int (nI nn), .ref ln, .ref lt, .ref q0]))]) (LqW dA ln gq) (VW dA h ad (VS.s_ll z4 (LqW dA lt gr ++ r))))).trans (List.perm_append_comm_assoc ([(q0, .inl (dA 1, 2 * gn.sz + 2, .inl (va_up (va_cpy fk (fun _ => 0) 0 0 (min kN (2 * gn.sz + 2))) gn.sz z2.qk)))]) (LqW dA ln gq) ([(sp, .inr (13, [.int kd, .int (nI pl), .long nu, .ref na, .int (nI nn), .ref ln, .ref lt, .ref q0]))] ++ (VW dA h ad (VS.s_ll z4 (LqW dA lt gr ++ r)))))) hP
                  have hD := pmD (show List.Perm (α := Nat × va_E) ([(q0, .inl (dA 1, 2 * gn.sz + 2, .inl (va_up (va_cpy fk (fun _ => 0) 0 0 (min kN (2 * gn.sz + 2))) gn.sz z2.qk)))] ++ ([(sp, .inr (13, [.int kd, .int (nI pl), .long nu, .ref na, .int (nI nn), .ref ln, .ref lt, .ref q0]))] ++ (LqW dA ln gq ++ (VW dA h ad (VS.s_ll z4 (LqW dA lt gr ++ r)))))) (LqW dA ln gq ++ ([(q0, .inl (dA 1, 2 * gn.sz + 2, .inl (va_up (va_cpy fk (fun _ => 0) 0 0 (min kN (2 * gn.sz + 2))) gn.sz z2.qk)))] ++ ([(sp, .inr (13, [.int kd, .int (nI pl), .long nu, .ref na, .int (nI nn), .ref ln, .ref lt, .ref q0]))] ++ (VW dA h ad (VS.s_ll z4 (LqW dA lt gr ++ r)))))) from (List.Perm.append_left ([(q0, .inl (dA 1, 2 * gn.sz + 2, .inl (va_up (va_cpy fk (fun _ => 0) 0 0 (min kN (2 * gn.sz + 2))) gn.sz z2.qk)))]) (List.perm_append_comm_assoc ([(sp, .inr (13, [.int kd, .int (nI pl), .long nu, .ref na, .int (nI nn), .ref ln, .ref lt, .ref q0]))]) (LqW dA ln gq) (VW dA h ad (VS.s_ll z4 (LqW dA lt gr ++ r))))).trans (List.perm_append_comm_assoc ([(q0, .inl (dA 1, 2 * gn.sz + 2, .inl (va_up (va_cpy fk (fun _ => 0) 0 0 (min kN (2 * gn.sz + 2))) gn.sz z2.qk)))]) (LqW dA ln gq) ([(sp, .inr (13, [.int kd, .int (nI pl), .long nu, .ref na, .int (nI nn), .ref ln, .ref lt, .ref q0]))] ++ (VW dA h ad (VS.s_ll z4 (LqW dA lt gr ++ r)))))) hD
                  have hP := pmP (show List.Perm (α := Nat × va_E) (LqW dA ln gq ++ ([(q0, .inl (dA 1, 2 * gn.sz + 2, .inl (va_up (va_cpy fk (fun _ => 0) 0 0 (min kN (2 * gn.sz + 2))) gn.sz z2.qk)))] ++ ([(sp, .inr (13, [.int kd, .int (nI pl), .long nu, .ref na, .int (nI nn), .ref ln, .ref lt, .ref q0]))] ++ (VW dA h ad (VS.s_ll z4 (LqW dA lt gr ++ r)))))) ([(q0, .inl (dA 1, 2 * gn.sz + 2, .inl (va_up (va_cpy fk (fun _ => 0) 0 0 (min kN (2 * gn.sz + 2))) gn.sz z2.qk)))] ++ ([(sp, .inr (13, [.int kd, .int (nI pl), .long nu, .ref na, .int (nI nn), .ref ln, .ref lt, .ref q0]))] ++ (VW dA h ad (VS.s_ll z4 (LqW dA ln gq ++ (LqW dA lt gr ++ r)))))) from (llF (F := [(q0, .inl (dA 1, 2 * gn.sz + 2, .inl (va_up (va_cpy fk (fun _ => 0) 0 0 (min kN (2 * gn.sz + 2))) gn.sz z2.qk)))]) (llF (F := [(sp, .inr (13, [.int kd, .int (nI pl), .long nu, .ref na, .int (nI nn), .ref ln, .ref lt, .ref q0]))]) (llP (dA := dA) (h := h) (ad := ad) (x := (VS.s_ll z4 (LqW dA ln gq ++ (LqW dA lt gr ++ r)))) (L := LqW dA ln gq) (r := (LqW dA lt gr ++ r)) rfl))).symm) hP
                  have hD := pmD (show List.Perm (α := Nat × va_E) (LqW dA ln gq ++ ([(q0, .inl (dA 1, 2 * gn.sz + 2, .inl (va_up (va_cpy fk (fun _ => 0) 0 0 (min kN (2 * gn.sz + 2))) gn.sz z2.qk)))] ++ ([(sp, .inr (13, [.int kd, .int (nI pl), .long nu, .ref na, .int (nI nn), .ref ln, .ref lt, .ref q0]))] ++ (VW dA h ad (VS.s_ll z4 (LqW dA lt gr ++ r)))))) ([(q0, .inl (dA 1, 2 * gn.sz + 2, .inl (va_up (va_cpy fk (fun _ => 0) 0 0 (min kN (2 * gn.sz + 2))) gn.sz z2.qk)))] ++ ([(sp, .inr (13, [.int kd, .int (nI pl), .long nu, .ref na, .int (nI nn), .ref ln, .ref lt, .ref q0]))] ++ (VW dA h ad (VS.s_ll z4 (LqW dA ln gq ++ (LqW dA lt gr ++ r)))))) from (llF (F := [(q0, .inl (dA 1, 2 * gn.sz + 2, .inl (va_up (va_cpy fk (fun _ => 0) 0 0 (min kN (2 * gn.sz + 2))) gn.sz z2.qk)))]) (llF (F := [(sp, .inr (13, [.int kd, .int (nI pl), .long nu, .ref na, .int (nI nn), .ref ln, .ref lt, .ref q0]))]) (llP (dA := dA) (h := h) (ad := ad) (x := (VS.s_ll z4 (LqW dA ln gq ++ (LqW dA lt gr ++ r)))) (L := LqW dA ln gq) (r := (LqW dA lt gr ++ r)) rfl))).symm) hD
                  have hP : va_P D vwCl ([(q0, .inl (dA 1, 2 * gn.sz + 2, .inl (va_up (va_cpy fk (fun _ => 0) 0 0 (min kN (2 * gn.sz + 2))) gn.sz z2.qk)))] ++ ([(sp, .inr (13, [.int kd, .int (nI pl), .long nu, .ref na, .int (nI nn), .ref ln, .ref lt, .ref q0]))] ++ (VW dA h ad (VS.s_ll z4 (LqW dA ln gq ++ (LqW dA lt gr ++ r)))))) H := hP
                  have hD : va_D A ([(q0, .inl (dA 1, 2 * gn.sz + 2, .inl (va_up (va_cpy fk (fun _ => 0) 0 0 (min kN (2 * gn.sz + 2))) gn.sz z2.qk)))] ++ ([(sp, .inr (13, [.int kd, .int (nI pl), .long nu, .ref na, .int (nI nn), .ref ln, .ref lt, .ref q0]))] ++ (VW dA h ad (VS.s_ll z4 (LqW dA ln gq ++ (LqW dA lt gr ++ r)))))) := hD
                  obtain ⟨z5, e_z5⟩ : ∃ w9, w9 = VS.s_ll z4 (LqW dA ln gq ++ (LqW dA lt gr ++ r)) := ⟨_, rfl⟩
                  rw [← e_z5] at hP hD
                  have hP : va_P D vwCl ([(q0, .inl (dA 1, 2 * gn.sz + 2, .inl (va_up (va_cpy fk (fun _ => 0) 0 0 (min kN (2 * gn.sz + 2))) gn.sz z2.qk)))] ++ ([(sp, .inr (13, [.int kd, .int (nI pl), .long nu, .ref na, .int (nI nn), .ref ln, .ref lt, .ref q0]))] ++ (VW dA h ad z5))) H := hP
                  have hD : va_D A ([(q0, .inl (dA 1, 2 * gn.sz + 2, .inl (va_up (va_cpy fk (fun _ => 0) 0 0 (min kN (2 * gn.sz + 2))) gn.sz z2.qk)))] ++ ([(sp, .inr (13, [.int kd, .int (nI pl), .long nu, .ref na, .int (nI nn), .ref ln, .ref lt, .ref q0]))] ++ (VW dA h ad z5))) := hD
                  have hP := pmP (show List.Perm (α := Nat × va_E) ([(q0, .inl (dA 1, 2 * gn.sz + 2, .inl (va_up (va_cpy fk (fun _ => 0) 0 0 (min kN (2 * gn.sz + 2))) gn.sz z2.qk)))] ++ ([(sp, .inr (13, [.int kd, .int (nI pl), .long nu, .ref na, .int (nI nn), .ref ln, .ref lt, .ref q0]))] ++ (VW dA h ad z5))) ([(sp, .inr (13, [.int kd, .int (nI pl), .long nu, .ref na, .int (nI nn), .ref ln, .ref lt, .ref q0]))] ++ ([(q0, .inl (dA 1, 2 * gn.sz + 2, .inl (va_up (va_cpy fk (fun _ => 0) 0 0 (min kN (2 * gn.sz + 2))) gn.sz z2.qk)))] ++ (VW dA h ad z5))) from List.perm_append_comm_assoc ([(q0, .inl (dA 1, 2 * gn.sz + 2, .inl (va_up (va_cpy fk (fun _ => 0) 0 0 (min kN (2 * gn.sz + 2))) gn.sz z2.qk)))]) ([(sp, .inr (13, [.int kd, .int (nI pl), .long nu, .ref na, .int (nI nn), .ref ln, .ref lt, .ref q0]))]) (VW dA h ad z5)) hP
                  have hD := pmD (show List.Perm (α := Nat × va_E) ([(q0, .inl (dA 1, 2 * gn.sz + 2, .inl (va_up (va_cpy fk (fun _ => 0) 0 0 (min kN (2 * gn.sz + 2))) gn.sz z2.qk)))] ++ ([(sp, .inr (13, [.int kd, .int (nI pl), .long nu, .ref na, .int (nI nn), .ref ln, .ref lt, .ref q0]))] ++ (VW dA h ad z5))) ([(sp, .inr (13, [.int kd, .int (nI pl), .long nu, .ref na, .int (nI nn), .ref ln, .ref lt, .ref q0]))] ++ ([(q0, .inl (dA 1, 2 * gn.sz + 2, .inl (va_up (va_cpy fk (fun _ => 0) 0 0 (min kN (2 * gn.sz + 2))) gn.sz z2.qk)))] ++ (VW dA h ad z5))) from List.perm_append_comm_assoc ([(q0, .inl (dA 1, 2 * gn.sz + 2, .inl (va_up (va_cpy fk (fun _ => 0) 0 0 (min kN (2 * gn.sz + 2))) gn.sz z2.qk)))]) ([(sp, .inr (13, [.int kd, .int (nI pl), .long nu, .ref na, .int (nI nn), .ref ln, .ref lt, .ref q0]))]) (VW dA h ad z5)) hD
                  have hk5 : z5.qok := by rw [e_z5]; exact qok_ll hk4
                  have q35 : x.qr z5 := by rw [e_z5]; exact qr_tr (qr_tr qp_z3 q34) ⟨rfl, fun _ h9 => h9⟩
                  have tt5 : z5.tk = nxT x.tape x.qlen (nxT x.tape x.qlen z.tk) := by rw [e_z5]; exact tk4
                  have hl5 : z5.ll = LqW dA ln gq ++ (LqW dA lt gr ++ r) := by rw [e_z5]
                  have ep5 : z5.pl = z4.pl := by rw [e_z5]
                  rw [← ep5] at w8 w7 wn1 wt1
                  have sz5 : z5.qst = z3.qst ∧ z5.qen = z3.qen := by rw [e_z5, e_z4]; exact ⟨rfl, rfl⟩
                  have wn2 := lwOk_s wn1 f_a1_36 w7 l9
                  have wt2 := lwOk_s wt1 f_a2_37 w8 l8
                  have lg2 := lq_s lg f_a1_36 (by omega)
                  have lt2 := lq_s lgt f_a2_37 (by have := wv.1; omega)
                  have en1 : gq.eN = gqN gn := f_a1_36.2.1
                  have en2 : gr.eN = gqN gt := f_a2_37.2.1
                  have kd2 := kd_s (kd_c (n := kN) (k := 2 * i + 2) hkd (show i ≤ kN by omega) (by omega)) im
                  rw [← tt_z2] at kd2
                  have kb_z5 : z5.qst ≤ z5.qen ∧ z5.qen ≤ z5.qlen ∧ z5.qlen ≤ z5.tpN ∧ z5.tpN ≤ 131072 ∧ z5.qlen ≤ 16384 := ⟨hk5.2.2.2.2.2.1, hk5.2.2.2.2.2.2.1, hk5.2.1, hk5.2.2.1, hk5.2.2.2.1⟩
                  have kq_z5 : z5.qtp = z5.tpA := hk5.1
                  have kf_z5 : z5.tape = x.tape ∧ z5.qlen = x.qlen := ⟨(qr_f q35).2.2.1, (qr_f q35).2.1⟩
                  have hPc : va_P D vwCl (VW dA h ad z5) H := spP (wr := [(sp, .inr (13, [.int kd, .int (nI pl), .long nu, .ref na, .int (nI nn), .ref ln, .ref lt, .ref q0]))] ++ ([(q0, .inl (dA 1, 2 * gn.sz + 2, .inl (va_up (va_cpy fk (fun _ => 0) 0 0 (min kN (2 * gn.sz + 2))) gn.sz z2.qk)))])) hP
                  have hDc : va_D A (VW dA h ad z5) := spD (wr := [(sp, .inr (13, [.int kd, .int (nI pl), .long nu, .ref na, .int (nI nn), .ref ln, .ref lt, .ref q0]))] ++ ([(q0, .inl (dA 1, 2 * gn.sz + 2, .inl (va_up (va_cpy fk (fun _ => 0) 0 0 (min kN (2 * gn.sz + 2))) gn.sz z2.qk)))])) hD
                  refine jkV (wr := [(sp, .inr (13, [.int kd, .int (nI pl), .long nu, .ref na, .int (nI nn), .ref ln, .ref lt, .ref q0]))] ++ ([(q0, .inl (dA 1, 2 * gn.sz + 2, .inl (va_up (va_cpy fk (fun _ => 0) 0 0 (min kN (2 * gn.sz + 2))) gn.sz z2.qk)))])) (rnV (As := []) (rest := []) hx hb hml hown hE hK (hN _ _ hS) hPc hDc (v_Qadvance l D dA H.size h ad z5 kq_z5 (show z5.qlen ≤ z5.tpN from by omega) (show z5.tpN ≤ 131072 from by omega) (show z5.qen ≤ z5.qlen from by omega)) (q0 := 36) rfl rfl w685 w684 w686 w687 w665 rfl rfl ⟨⟨by decide, by decide⟩, rfl⟩ ⟨(Nat.le_of_ble_eq_true rfl), (Nat.le_of_ble_eq_true rfl)⟩ rfl hl.1 rfl (Nat.le_of_ble_eq_true rfl) d_Q_readMatches_129 ⟨(show 4 * (z.qst - x.qst) + 2 + 0 + 0 + 0 + 1 + 1 + 3 + 0 ≤ 4 * (rqP x.rms.1 x.rms.2.1 - x.qst) by omega), (show 2 * (z.qst - x.qst) + 4 * gn.eN + 4 * gt.eN + 2 * kN + (1 + (z.qen - z.qst)) + 0 + 0 + 0 + 1 + ((z3.qen - 1) - (z3.qst + 1)) + (2 * gn.sz + 2 + gqS gn + gqS gt) + 0 ≤ 12 * (rqP x.rms.1 x.rms.2.1 - x.qst) + 130 by omega)⟩) hP hD hS hA (fun u39 H locs hp9 hP hD hS => ?_)
                  obtain ⟨z6, h9u⟩ : ∃ z9, z9 = u39 := ⟨_, rfl⟩
                  subst h9u
                  have hP : va_P D vwCl ([(sp, .inr (13, [.int kd, .int (nI pl), .long nu, .ref na, .int (nI nn), .ref ln, .ref lt, .ref q0]))] ++ ([(q0, .inl (dA 1, 2 * gn.sz + 2, .inl (va_up (va_cpy fk (fun _ => 0) 0 0 (min kN (2 * gn.sz + 2))) gn.sz z2.qk)))] ++ (VW dA h ad z6))) H := hP
                  have hD : va_D A ([(sp, .inr (13, [.int kd, .int (nI pl), .long nu, .ref na, .int (nI nn), .ref ln, .ref lt, .ref q0]))] ++ ([(q0, .inl (dA 1, 2 * gn.sz + 2, .inl (va_up (va_cpy fk (fun _ => 0) 0 0 (min kN (2 * gn.sz + 2))) gn.sz z2.qk)))] ++ (VW dA h ad z6))) := hD
                  have f_e_40 := hp9
                  refine lv_aload_n hx hb d_Q_readMatches_132 rfl (lv_at hl 3 rfl) ?_
                  obtain ⟨hk_z6, qq_z6, tk_z6⟩ := qok_adv hk5 f_e_40
                  have qp_z6 := qr_tr q35 (qp_qr qq_z6)
                  have ml_z6 : z6.ll = z5.ll := qp_ll qq_z6
                  have tt_z6 : z6.tk = nxT x.tape x.qlen (nxT x.tape x.qlen (nxT x.tape x.qlen z.tk)) := by rw [tk_z6, kf_z5.1, kf_z5.2, tt5]
                  have kb_z6 : z6.qst ≤ z6.qen ∧ z6.qen ≤ z6.qlen ∧ z6.qlen ≤ z6.tpN ∧ z6.tpN ≤ 131072 ∧ z6.qlen ≤ 16384 := ⟨hk_z6.2.2.2.2.2.1, hk_z6.2.2.2.2.2.2.1, hk_z6.2.1, hk_z6.2.2.1, hk_z6.2.2.2.1⟩
                  have kq_z6 : z6.qtp = z6.tpA := hk_z6.1
                  have kf_z6 : z6.tape = x.tape ∧ z6.qlen = x.qlen := ⟨(qr_f qp_z6).2.2.1, (qr_f qp_z6).2.1⟩
                  have st_z6 : z5.qen ≤ z6.qst := by have e9 := (nx_ok (f := z5.tape) (n := z5.qlen) (t := z5.tk) hk5.2.2.2.2.2.2.1).2; rw [← tk_z6] at e9; exact e9
                  have wn3 := lwOk_m qq_z6.2 wn2
                  have wt3 := lwOk_m qq_z6.2 wt2
                  refine gF (v := .int z6.qk) hx hb hown hE hK hP 38 rfl rfl layQ 2 (by decide) w663 rfl d_Q_readMatches_133 ?_
                  refine lv_bipush (v := 44) hx hb d_Q_readMatches_136 (by decide) ?_
                  refine lv_icmp_eq hx hb d_Q_readMatches_138 (tgt := 143) rfl (fun g41 => ?_) (fun g41 => ?_)
                  · have g41 := g41
                    refine lv_aload_n hx hb d_Q_readMatches_143 rfl (lv_at hl 3 rfl) ?_
                    have hPc : va_P D vwCl (VW dA h ad z6) H := spP (wr := [(sp, .inr (13, [.int kd, .int (nI pl), .long nu, .ref na, .int (nI nn), .ref ln, .ref lt, .ref q0]))] ++ ([(q0, .inl (dA 1, 2 * gn.sz + 2, .inl (va_up (va_cpy fk (fun _ => 0) 0 0 (min kN (2 * gn.sz + 2))) gn.sz z2.qk)))])) hP
                    have hDc : va_D A (VW dA h ad z6) := spD (wr := [(sp, .inr (13, [.int kd, .int (nI pl), .long nu, .ref na, .int (nI nn), .ref ln, .ref lt, .ref q0]))] ++ ([(q0, .inl (dA 1, 2 * gn.sz + 2, .inl (va_up (va_cpy fk (fun _ => 0) 0 0 (min kN (2 * gn.sz + 2))) gn.sz z2.qk)))])) hD
                    refine jkV (wr := [(sp, .inr (13, [.int kd, .int (nI pl), .long nu, .ref na, .int (nI nn), .ref ln, .ref lt, .ref q0]))] ++ ([(q0, .inl (dA 1, 2 * gn.sz + 2, .inl (va_up (va_cpy fk (fun _ => 0) 0 0 (min kN (2 * gn.sz + 2))) gn.sz z2.qk)))])) (rnV (As := []) (rest := []) hx hb hml hown hE hK (hN _ _ hS) hPc hDc (v_Qadvance l D dA H.size h ad z6 kq_z6 (show z6.qlen ≤ z6.tpN from by omega) (show z6.tpN ≤ 131072 from by omega) (show z6.qen ≤ z6.qlen from by omega)) (q0 := 36) rfl rfl w685 w684 w686 w687 w665 rfl rfl ⟨⟨by decide, by decide⟩, rfl⟩ ⟨(Nat.le_of_ble_eq_true rfl), (Nat.le_of_ble_eq_true rfl)⟩ rfl hl.1 rfl (Nat.le_of_ble_eq_true rfl) d_Q_readMatches_144 ⟨(show 4 * (z.qst - x.qst) + 2 + 0 + 0 + 0 + 1 + 1 + 3 + 0 + 0 ≤ 4 * (rqP x.rms.1 x.rms.2.1 - x.qst) by omega), (show 2 * (z.qst - x.qst) + 4 * gn.eN + 4 * gt.eN + 2 * kN + (1 + (z.qen - z.qst)) + 0 + 0 + 0 + 1 + ((z3.qen - 1) - (z3.qst + 1)) + (2 * gn.sz + 2 + gqS gn + gqS gt) + 0 + 0 ≤ 12 * (rqP x.rms.1 x.rms.2.1 - x.qst) + 130 by omega)⟩) hP hD hS hA (fun u43 H locs hp9 hP hD hS => ?_)
                    obtain ⟨z7, h9u⟩ : ∃ z9, z9 = u43 := ⟨_, rfl⟩
                    subst h9u
                    have hP : va_P D vwCl ([(sp, .inr (13, [.int kd, .int (nI pl), .long nu, .ref na, .int (nI nn), .ref ln, .ref lt, .ref q0]))] ++ ([(q0, .inl (dA 1, 2 * gn.sz + 2, .inl (va_up (va_cpy fk (fun _ => 0) 0 0 (min kN (2 * gn.sz + 2))) gn.sz z2.qk)))] ++ (VW dA h ad z7))) H := hP
                    have hD : va_D A ([(sp, .inr (13, [.int kd, .int (nI pl), .long nu, .ref na, .int (nI nn), .ref ln, .ref lt, .ref q0]))] ++ ([(q0, .inl (dA 1, 2 * gn.sz + 2, .inl (va_up (va_cpy fk (fun _ => 0) 0 0 (min kN (2 * gn.sz + 2))) gn.sz z2.qk)))] ++ (VW dA h ad z7))) := hD
                    have f_e_44 := hp9
                    obtain ⟨hk_z7, qq_z7, tk_z7⟩ := qok_adv hk_z6 f_e_44
                    have qp_z7 := qr_tr qp_z6 (qp_qr qq_z7)
                    have ml_z7 : z7.ll = z6.ll := qp_ll qq_z7
                    have tt_z7 : z7.tk = nxT x.tape x.qlen (nxT x.tape x.qlen (nxT x.tape x.qlen (nxT x.tape x.qlen z.tk))) := by rw [tk_z7, kf_z6.1, kf_z6.2, tt_z6]
                    have kb_z7 : z7.qst ≤ z7.qen ∧ z7.qen ≤ z7.qlen ∧ z7.qlen ≤ z7.tpN ∧ z7.tpN ≤ 131072 ∧ z7.qlen ≤ 16384 := ⟨hk_z7.2.2.2.2.2.1, hk_z7.2.2.2.2.2.2.1, hk_z7.2.1, hk_z7.2.2.1, hk_z7.2.2.2.1⟩
                    have kq_z7 : z7.qtp = z7.tpA := hk_z7.1
                    have kf_z7 : z7.tape = x.tape ∧ z7.qlen = x.qlen := ⟨(qr_f qp_z7).2.2.1, (qr_f qp_z7).2.1⟩
                    have st_z7 : z6.qen ≤ z7.qst := by have e9 := (nx_ok (f := z6.tape) (n := z6.qlen) (t := z6.tk) hk_z6.2.2.2.2.2.2.1).2; rw [← tk_z7] at e9; exact e9
                    have wn4 := lwOk_m qq_z7.2 wn3
                    have wt4 := lwOk_m qq_z7.2 wt3
                    refine lv_iinc (k := 2) (v := nI (i + 1)) hx hb d_Q_readMatches_147 hl rfl (iincN (i) 1 1 (by decide)) (by decide) rfl (fun ls hl => ?_)
                    have hl : lv_has ls 5 [(2, .int (nI (i + 1))), (4, .int z2.qk), (3, .ref wq), (0, .ref (ad 22)), (1, .ref sp)] := hl
                    refine lv_goto hx hb d_Q_readMatches_150 (tgt := 13) rfl ?_
                    refine W.widen (k := 4 * (z7.qst - x.qst)) (n := 2 * (z7.qst - x.qst) + 4 * gq.eN + 4 * gr.eN + 2 * (2 * gn.sz + 2)) (show 4 * (z.qst - x.qst) + 2 + 0 + 0 + 0 + 1 + 1 + 3 + 0 + 0 ≤ 4 * (z7.qst - x.qst) from by omega) (show 2 * (z.qst - x.qst) + 4 * gn.eN + 4 * gt.eN + 2 * kN + (1 + (z.qen - z.qst)) + 0 + 0 + 0 + 1 + ((z3.qen - 1) - (z3.qst + 1)) + (2 * gn.sz + 2 + gqS gn + gqS gt) + 0 + 0 ≤ 2 * (z7.qst - x.qst) + 4 * gq.eN + 4 * gr.eN + 2 * (2 * gn.sz + 2) from by omega) ?_
                    exact ih13 _ (by omega) (i + 1) z7 q0 (2 * gn.sz + 2) (va_up (va_cpy fk (fun _ => 0) 0 0 (min kN (2 * gn.sz + 2))) gn.sz z2.qk) gq gr (va_up KD i z2.qk) (va_up MN i (tkw x.tape z.tk)) (va_up MT i (tkx x.tape (nxT x.tape x.qlen (nxT x.tape x.qlen z.tk)))) hk_z7 qp_z7 (ml_z7.trans (ml_z6.trans hl5)) lg2 lt2 wn4 wt4 (by rw [sz9]; exact kd2) (by omega) (by rw [en1]; exact gb1.1) (by rw [en2]; exact gb2.1) (by omega) (by rw [← er, rm_5 (w := x.qlen - i) (by omega) g3 im (by rw [← tt_z3]; exact g16) (by rw [← tt_z6]; exact g41), ← tt_z7, ← tt_z2, show x.qlen - i - 1 = x.qlen - (i + 1) by omega]; rfl) (by omega) rfl H _ ls hP hD hS (lv_sub hl [0, 3, 4] rfl)
                  · have g41 := g41
                    refine lv_iconst (v := 1) hx hb d_Q_readMatches_141 (by decide) ?_
                    have hP := pmP (show List.Perm (α := Nat × va_E) ([(sp, .inr (13, [.int kd, .int (nI pl), .long nu, .ref na, .int (nI nn), .ref ln, .ref lt, .ref q0]))] ++ ([(q0, .inl (dA 1, 2 * gn.sz + 2, .inl (va_up (va_cpy fk (fun _ => 0) 0 0 (min kN (2 * gn.sz + 2))) gn.sz z2.qk)))] ++ (VW dA h ad z6))) ([(q0, .inl (dA 1, 2 * gn.sz + 2, .inl (va_up (va_cpy fk (fun _ => 0) 0 0 (min kN (2 * gn.sz + 2))) gn.sz z2.qk)))] ++ ([(sp, .inr (13, [.int kd, .int (nI pl), .long nu, .ref na, .int (nI nn), .ref ln, .ref lt, .ref q0]))] ++ (VW dA h ad z6))) from List.perm_append_comm_assoc ([(sp, .inr (13, [.int kd, .int (nI pl), .long nu, .ref na, .int (nI nn), .ref ln, .ref lt, .ref q0]))]) ([(q0, .inl (dA 1, 2 * gn.sz + 2, .inl (va_up (va_cpy fk (fun _ => 0) 0 0 (min kN (2 * gn.sz + 2))) gn.sz z2.qk)))]) (VW dA h ad z6)) hP
                    have hD := pmD (show List.Perm (α := Nat × va_E) ([(sp, .inr (13, [.int kd, .int (nI pl), .long nu, .ref na, .int (nI nn), .ref ln, .ref lt, .ref q0]))] ++ ([(q0, .inl (dA 1, 2 * gn.sz + 2, .inl (va_up (va_cpy fk (fun _ => 0) 0 0 (min kN (2 * gn.sz + 2))) gn.sz z2.qk)))] ++ (VW dA h ad z6))) ([(q0, .inl (dA 1, 2 * gn.sz + 2, .inl (va_up (va_cpy fk (fun _ => 0) 0 0 (min kN (2 * gn.sz + 2))) gn.sz z2.qk)))] ++ ([(sp, .inr (13, [.int kd, .int (nI pl), .long nu, .ref na, .int (nI nn), .ref ln, .ref lt, .ref q0]))] ++ (VW dA h ad z6))) from List.perm_append_comm_assoc ([(sp, .inr (13, [.int kd, .int (nI pl), .long nu, .ref na, .int (nI nn), .ref ln, .ref lt, .ref q0]))]) ([(q0, .inl (dA 1, 2 * gn.sz + 2, .inl (va_up (va_cpy fk (fun _ => 0) 0 0 (min kN (2 * gn.sz + 2))) gn.sz z2.qk)))]) (VW dA h ad z6)) hD
                    exact rfZ hx hb hr (bI_nar true) hlk hS (⟨z6, q0, 2 * gn.sz + 2, va_up (va_cpy fk (fun _ => 0) 0 0 (min kN (2 * gn.sz + 2))) gn.sz z2.qk, gq, gr⟩) (by have E := (er.symm.trans (rm_4 (by omega) g3 im (by rw [← tt_z3]; exact g16) (by rw [← tt_z6]; exact g41))); have F1 : x.rms.1 = true := (by rw [E]); have F2 : x.rms.2.1 = nxT x.tape x.qlen (nxT x.tape x.qlen (nxT x.tape x.qlen z.tk)) := (by rw [E]); have F3 : x.rms.2.2.1 = i + 1 := (by rw [E]); have F4 : x.rms.2.2.2.1 = va_up KD i z2.qk := (by rw [E]; show va_up KD i (nxT x.tape x.qlen z.tk).1 = _; rw [← tt_z2]; rfl); have F5 : x.rms.2.2.2.2.1 = va_up MN i (tkw x.tape z.tk) := (by rw [E]); have F6 : x.rms.2.2.2.2.2 = va_up MT i (tkx x.tape (nxT x.tape x.qlen (nxT x.tape x.qlen z.tk))) := (by rw [E]); exact ⟨by rw [F1]; rfl, qp_z6, hk_z6, by rw [F2]; exact tt_z6, ml_z6.trans hl5, ⟨lg2, lt2⟩, by rw [F3, F5, F6]; exact ⟨wn3, wt3⟩, by rw [F3, F4]; rw [sz9]; exact kd2, by rw [F3]; exact ⟨show i + 1 ≤ 2 * gn.sz + 2 by omega, show 2 * gn.sz + 2 ≤ 262144 by omega⟩⟩) hP hD (show 4 * (z.qst - x.qst) + 2 + 0 + 0 + 0 + 1 + 1 + 3 + 0 ≤ 4 * (rqP x.rms.1 x.rms.2.1 - x.qst) by omega) (show 2 * (z.qst - x.qst) + 4 * gn.eN + 4 * gt.eN + 2 * kN + (1 + (z.qen - z.qst)) + 0 + 0 + 0 + 1 + ((z3.qen - 1) - (z3.qst + 1)) + (2 * gn.sz + 2 + gqS gn + gqS gt) + 0 ≤ 12 * (rqP x.rms.1 x.rms.2.1 - x.qst) + 130 by omega) d_Q_readMatches_142
              · have g16 := g16
                refine lv_aload_n hx hb d_Q_readMatches_88 rfl (lv_at hl 3 rfl) ?_
                refine lv_iconst (v := 2) hx hb d_Q_readMatches_89 (by decide) ?_
                refine lv_aload_n hx hb d_Q_readMatches_90 rfl (lv_at hl 3 rfl) ?_
                refine gF (v := .int (nI z3.qst)) hx hb hown hE hK hP 38 rfl rfl layQ 3 (by decide) w662 rfl d_Q_readMatches_91 ?_
                have hPc : va_P D vwCl (VW dA h ad z3) H := spP (wr := [(sp, .inr (13, [.int kd, .int (nI pl), .long nu, .ref na, .int (nI nn), .ref ln, .ref lt, .ref mk]))] ++ ([(mk, .inl (dA 1, kN, .inl fk))])) hP
                have hDc : va_D A (VW dA h ad z3) := spD (wr := [(sp, .inr (13, [.int kd, .int (nI pl), .long nu, .ref na, .int (nI nn), .ref ln, .ref lt, .ref mk]))] ++ ([(mk, .inl (dA 1, kN, .inl fk))])) hD
                refine jkI (wr := [(sp, .inr (13, [.int kd, .int (nI pl), .long nu, .ref na, .int (nI nn), .ref ln, .ref lt, .ref mk]))] ++ ([(mk, .inl (dA 1, kN, .inl fk))])) (rnV (As := [.int 2, .int (nI z3.qst)]) (rest := []) hx hb hml hown hE hK (hN _ _ hS) hPc hDc (v_Qrefuse l D dA H.size h ad z3 2 z3.qst) (q0 := 36) rfl rfl w666 w664 w667 w668 w665 rfl rfl ⟨⟨by decide, by decide⟩, rfl⟩ ⟨(Nat.le_of_ble_eq_true rfl), (Nat.le_of_ble_eq_true rfl)⟩ rfl hl.1 rfl (Nat.le_of_ble_eq_true rfl) d_Q_readMatches_94 ⟨(show 4 * (z.qst - x.qst) + 2 + 0 + 0 + 0 + 0 ≤ 4 * (rqP x.rms.1 x.rms.2.1 - x.qst) by omega), (show 2 * (z.qst - x.qst) + 4 * gn.eN + 4 * gt.eN + 2 * kN + (1 + (z.qen - z.qst)) + 0 + 0 + 0 + 0 ≤ 12 * (rqP x.rms.1 x.rms.2.1 - x.qst) + 130 by omega)⟩) hP hD hS hA (fun r45 u46 H locs hp9 hP hD hS => ?_)
                obtain ⟨y3, h9u⟩ : ∃ z9, z9 = u46 := ⟨_, rfl⟩
                subst h9u
                have hP : va_P D vwCl ([(sp, .inr (13, [.int kd, .int (nI pl), .long nu, .ref na, .int (nI nn), .ref ln, .ref lt, .ref mk]))] ++ ([(mk, .inl (dA 1, kN, .inl fk))] ++ (VW dA h ad y3))) H := hP
                have hD : va_D A ([(sp, .inr (13, [.int kd, .int (nI pl), .long nu, .ref na, .int (nI nn), .ref ln, .ref lt, .ref mk]))] ++ ([(mk, .inl (dA 1, kN, .inl fk))] ++ (VW dA h ad y3))) := hD
                obtain ⟨hp9, f_e_47⟩ := hp9
                replace hp9 : 0 = r45 := Eq.symm hp9
                subst hp9
                obtain ⟨hk_y3, qq_y3, tk_y3⟩ := qok_rfq hk_z3 f_e_47
                have qp_y3 := qr_tr qp_z3 (qp_qr qq_y3)
                have ml_y3 : y3.ll = z3.ll := qp_ll qq_y3
                have tt_y3 : y3.tk = rfT (nxT x.tape x.qlen (nxT x.tape x.qlen z.tk)) 2 (nxT x.tape x.qlen (nxT x.tape x.qlen z.tk)).2.1 := by rw [tk_y3, show z3.qst = z3.tk.2.1 from rfl, tt_z3]
                have kb_y3 : y3.qst ≤ y3.qen ∧ y3.qen ≤ y3.qlen ∧ y3.qlen ≤ y3.tpN ∧ y3.tpN ≤ 131072 ∧ y3.qlen ≤ 16384 := ⟨hk_y3.2.2.2.2.2.1, hk_y3.2.2.2.2.2.2.1, hk_y3.2.1, hk_y3.2.2.1, hk_y3.2.2.2.1⟩
                have kq_y3 : y3.qtp = y3.tpA := hk_y3.1
                have kf_y3 : y3.tape = x.tape ∧ y3.qlen = x.qlen := ⟨(qr_f qp_y3).2.2.1, (qr_f qp_y3).2.1⟩
                have hP := pmP (show List.Perm (α := Nat × va_E) ([(sp, .inr (13, [.int kd, .int (nI pl), .long nu, .ref na, .int (nI nn), .ref ln, .ref lt, .ref mk]))] ++ ([(mk, .inl (dA 1, kN, .inl fk))] ++ (VW dA h ad y3))) ([(mk, .inl (dA 1, kN, .inl fk))] ++ ([(sp, .inr (13, [.int kd, .int (nI pl), .long nu, .ref na, .int (nI nn), .ref ln, .ref lt, .ref mk]))] ++ (VW dA h ad y3))) from List.perm_append_comm_assoc ([(sp, .inr (13, [.int kd, .int (nI pl), .long nu, .ref na, .int (nI nn), .ref ln, .ref lt, .ref mk]))]) ([(mk, .inl (dA 1, kN, .inl fk))]) (VW dA h ad y3)) hP
                have hD := pmD (show List.Perm (α := Nat × va_E) ([(sp, .inr (13, [.int kd, .int (nI pl), .long nu, .ref na, .int (nI nn), .ref ln, .ref lt, .ref mk]))] ++ ([(mk, .inl (dA 1, kN, .inl fk))] ++ (VW dA h ad y3))) ([(mk, .inl (dA 1, kN, .inl fk))] ++ ([(sp, .inr (13, [.int kd, .int (nI pl), .long nu, .ref na, .int (nI nn), .ref ln, .ref lt, .ref mk]))] ++ (VW dA h ad y3))) from List.perm_append_comm_assoc ([(sp, .inr (13, [.int kd, .int (nI pl), .long nu, .ref na, .int (nI nn), .ref ln, .ref lt, .ref mk]))]) ([(mk, .inl (dA 1, kN, .inl fk))]) (VW dA h ad y3)) hD
                exact rfZ hx hb hr (bI_nar false) hlk hS (⟨y3, mk, kN, fk, gn, gt⟩) (by have E := (er.symm.trans (rm_3 (by omega) g3 im (by rw [← tt_z3]; exact g16))); have F1 : x.rms.1 = false := (by rw [E]); have F2 : x.rms.2.1 = rfT (nxT x.tape x.qlen (nxT x.tape x.qlen z.tk)) 2 (nxT x.tape x.qlen (nxT x.tape x.qlen z.tk)).2.1 := (by rw [E]); have F3 : x.rms.2.2.1 = i := (by rw [E]); have F4 : x.rms.2.2.2.1 = KD := (by rw [E]); have F5 : x.rms.2.2.2.2.1 = MN := (by rw [E]); have F6 : x.rms.2.2.2.2.2 = MT := (by rw [E]); exact ⟨by rw [F1]; rfl, qp_y3, hk_y3, by rw [F2]; exact tt_y3, ml_y3.trans (ml_z3.trans (ml_z2.trans (ml_z1.trans hlz))), ⟨lg, lgt⟩, by rw [F3, F5, F6]; exact ⟨lwOk_m (fun c hc => qq_y3.2 c (qq_z3.2 c (qq_z2.2 c (qq_z1.2 c hc)))) wn, lwOk_m (fun c hc => qq_y3.2 c (qq_z3.2 c (qq_z2.2 c (qq_z1.2 c hc)))) wv⟩, by rw [F3, F4]; exact hkd, by rw [F3]; exact ⟨ck, show kN ≤ 262144 by omega⟩⟩) hP hD (show 4 * (z.qst - x.qst) + 2 + 0 + 0 + 0 + 0 ≤ 4 * (rqP x.rms.1 x.rms.2.1 - x.qst) by omega) (show 2 * (z.qst - x.qst) + 4 * gn.eN + 4 * gt.eN + 2 * kN + (1 + (z.qen - z.qst)) + 0 + 0 + 0 + 0 ≤ 12 * (rqP x.rms.1 x.rms.2.1 - x.qst) + 130 by omega) d_Q_readMatches_97
            · have g12 := bI_0 g12
              refine lv_aload_n hx hb d_Q_readMatches_64 rfl (lv_at hl 3 rfl) ?_
              refine lv_iconst (v := 2) hx hb d_Q_readMatches_65 (by decide) ?_
              refine lv_aload_n hx hb d_Q_readMatches_66 rfl (lv_at hl 3 rfl) ?_
              refine gF (v := .int (nI z2.qst)) hx hb hown hE hK hP 38 rfl rfl layQ 3 (by decide) w662 rfl d_Q_readMatches_67 ?_
              have hPc : va_P D vwCl (VW dA h ad z2) H := spP (wr := [(sp, .inr (13, [.int kd, .int (nI pl), .long nu, .ref na, .int (nI nn), .ref ln, .ref lt, .ref mk]))] ++ ([(mk, .inl (dA 1, kN, .inl fk))])) hP
              have hDc : va_D A (VW dA h ad z2) := spD (wr := [(sp, .inr (13, [.int kd, .int (nI pl), .long nu, .ref na, .int (nI nn), .ref ln, .ref lt, .ref mk]))] ++ ([(mk, .inl (dA 1, kN, .inl fk))])) hD
              refine jkI (wr := [(sp, .inr (13, [.int kd, .int (nI pl), .long nu, .ref na, .int (nI nn), .ref ln, .ref lt, .ref mk]))] ++ ([(mk, .inl (dA 1, kN, .inl fk))])) (rnV (As := [.int 2, .int (nI z2.qst)]) (rest := []) hx hb hml hown hE hK (hN _ _ hS) hPc hDc (v_Qrefuse l D dA H.size h ad z2 2 z2.qst) (q0 := 36) rfl rfl w666 w664 w667 w668 w665 rfl rfl ⟨⟨by decide, by decide⟩, rfl⟩ ⟨(Nat.le_of_ble_eq_true rfl), (Nat.le_of_ble_eq_true rfl)⟩ rfl hl.1 rfl (Nat.le_of_ble_eq_true rfl) d_Q_readMatches_70 ⟨(show 4 * (z.qst - x.qst) + 2 + 0 + 0 + 0 ≤ 4 * (rqP x.rms.1 x.rms.2.1 - x.qst) by omega), (show 2 * (z.qst - x.qst) + 4 * gn.eN + 4 * gt.eN + 2 * kN + (1 + (z.qen - z.qst)) + 0 + 0 + 0 ≤ 12 * (rqP x.rms.1 x.rms.2.1 - x.qst) + 130 by omega)⟩) hP hD hS hA (fun r48 u49 H locs hp9 hP hD hS => ?_)
              obtain ⟨y2, h9u⟩ : ∃ z9, z9 = u49 := ⟨_, rfl⟩
              subst h9u
              have hP : va_P D vwCl ([(sp, .inr (13, [.int kd, .int (nI pl), .long nu, .ref na, .int (nI nn), .ref ln, .ref lt, .ref mk]))] ++ ([(mk, .inl (dA 1, kN, .inl fk))] ++ (VW dA h ad y2))) H := hP
              have hD : va_D A ([(sp, .inr (13, [.int kd, .int (nI pl), .long nu, .ref na, .int (nI nn), .ref ln, .ref lt, .ref mk]))] ++ ([(mk, .inl (dA 1, kN, .inl fk))] ++ (VW dA h ad y2))) := hD
              obtain ⟨hp9, f_e_50⟩ := hp9
              replace hp9 : 0 = r48 := Eq.symm hp9
              subst hp9
              obtain ⟨hk_y2, qq_y2, tk_y2⟩ := qok_rfq hk_z2 f_e_50
              have qp_y2 := qr_tr qp_z2 (qp_qr qq_y2)
              have ml_y2 : y2.ll = z2.ll := qp_ll qq_y2
              have tt_y2 : y2.tk = rfT (nxT x.tape x.qlen z.tk) 2 (nxT x.tape x.qlen z.tk).2.1 := by rw [tk_y2, show z2.qst = z2.tk.2.1 from rfl, tt_z2]
              have kb_y2 : y2.qst ≤ y2.qen ∧ y2.qen ≤ y2.qlen ∧ y2.qlen ≤ y2.tpN ∧ y2.tpN ≤ 131072 ∧ y2.qlen ≤ 16384 := ⟨hk_y2.2.2.2.2.2.1, hk_y2.2.2.2.2.2.2.1, hk_y2.2.1, hk_y2.2.2.1, hk_y2.2.2.2.1⟩
              have kq_y2 : y2.qtp = y2.tpA := hk_y2.1
              have kf_y2 : y2.tape = x.tape ∧ y2.qlen = x.qlen := ⟨(qr_f qp_y2).2.2.1, (qr_f qp_y2).2.1⟩
              have hP := pmP (show List.Perm (α := Nat × va_E) ([(sp, .inr (13, [.int kd, .int (nI pl), .long nu, .ref na, .int (nI nn), .ref ln, .ref lt, .ref mk]))] ++ ([(mk, .inl (dA 1, kN, .inl fk))] ++ (VW dA h ad y2))) ([(mk, .inl (dA 1, kN, .inl fk))] ++ ([(sp, .inr (13, [.int kd, .int (nI pl), .long nu, .ref na, .int (nI nn), .ref ln, .ref lt, .ref mk]))] ++ (VW dA h ad y2))) from List.perm_append_comm_assoc ([(sp, .inr (13, [.int kd, .int (nI pl), .long nu, .ref na, .int (nI nn), .ref ln, .ref lt, .ref mk]))]) ([(mk, .inl (dA 1, kN, .inl fk))]) (VW dA h ad y2)) hP
              have hD := pmD (show List.Perm (α := Nat × va_E) ([(sp, .inr (13, [.int kd, .int (nI pl), .long nu, .ref na, .int (nI nn), .ref ln, .ref lt, .ref mk]))] ++ ([(mk, .inl (dA 1, kN, .inl fk))] ++ (VW dA h ad y2))) ([(mk, .inl (dA 1, kN, .inl fk))] ++ ([(sp, .inr (13, [.int kd, .int (nI pl), .long nu, .ref na, .int (nI nn), .ref ln, .ref lt, .ref mk]))] ++ (VW dA h ad y2))) from List.perm_append_comm_assoc ([(sp, .inr (13, [.int kd, .int (nI pl), .long nu, .ref na, .int (nI nn), .ref ln, .ref lt, .ref mk]))]) ([(mk, .inl (dA 1, kN, .inl fk))]) (VW dA h ad y2)) hD
              exact rfZ hx hb hr (bI_nar false) hlk hS (⟨y2, mk, kN, fk, gn, gt⟩) (by have E := (er.symm.trans (rm_2 (by omega) g3 (by rw [← tt_z2]; exact g12))); have F1 : x.rms.1 = false := (by rw [E]); have F2 : x.rms.2.1 = rfT (nxT x.tape x.qlen z.tk) 2 (nxT x.tape x.qlen z.tk).2.1 := (by rw [E]); have F3 : x.rms.2.2.1 = i := (by rw [E]); have F4 : x.rms.2.2.2.1 = KD := (by rw [E]); have F5 : x.rms.2.2.2.2.1 = MN := (by rw [E]); have F6 : x.rms.2.2.2.2.2 = MT := (by rw [E]); exact ⟨by rw [F1]; rfl, qp_y2, hk_y2, by rw [F2]; exact tt_y2, ml_y2.trans (ml_z2.trans (ml_z1.trans hlz)), ⟨lg, lgt⟩, by rw [F3, F5, F6]; exact ⟨lwOk_m (fun c hc => qq_y2.2 c (qq_z2.2 c (qq_z1.2 c hc))) wn, lwOk_m (fun c hc => qq_y2.2 c (qq_z2.2 c (qq_z1.2 c hc))) wv⟩, by rw [F3, F4]; exact hkd, by rw [F3]; exact ⟨ck, show kN ≤ 262144 by omega⟩⟩) hP hD (show 4 * (z.qst - x.qst) + 2 + 0 + 0 + 0 ≤ 4 * (rqP x.rms.1 x.rms.2.1 - x.qst) by omega) (show 2 * (z.qst - x.qst) + 4 * gn.eN + 4 * gt.eN + 2 * kN + (1 + (z.qen - z.qst)) + 0 + 0 + 0 ≤ 12 * (rqP x.rms.1 x.rms.2.1 - x.qst) + 130 by omega) d_Q_readMatches_73
          · have g3 := g3
            refine lv_aload_n hx hb d_Q_readMatches_31 rfl (lv_at hl 1 rfl) ?_
            refine lv_iconst (v := 2) hx hb d_Q_readMatches_32 (by decide) ?_
            refine lv_aload_n hx hb d_Q_readMatches_33 rfl (lv_at hl 1 rfl) ?_
            refine gF (v := .int (nI z.qst)) hx hb hown hE hK hP 38 rfl rfl layQ 3 (by decide) w662 rfl d_Q_readMatches_34 ?_
            have hPc : va_P D vwCl (VW dA h ad z) H := spP (wr := [(sp, .inr (13, [.int kd, .int (nI pl), .long nu, .ref na, .int (nI nn), .ref ln, .ref lt, .ref mk]))] ++ ([(mk, .inl (dA 1, kN, .inl fk))])) hP
            have hDc : va_D A (VW dA h ad z) := spD (wr := [(sp, .inr (13, [.int kd, .int (nI pl), .long nu, .ref na, .int (nI nn), .ref ln, .ref lt, .ref mk]))] ++ ([(mk, .inl (dA 1, kN, .inl fk))])) hD
            refine jkI (wr := [(sp, .inr (13, [.int kd, .int (nI pl), .long nu, .ref na, .int (nI nn), .ref ln, .ref lt, .ref mk]))] ++ ([(mk, .inl (dA 1, kN, .inl fk))])) (rnV (As := [.int 2, .int (nI z.qst)]) (rest := []) hx hb hml hown hE hK (hN _ _ hS) hPc hDc (v_Qrefuse l D dA H.size h ad z 2 z.qst) (q0 := 36) rfl rfl w666 w664 w667 w668 w665 rfl rfl ⟨⟨by decide, by decide⟩, rfl⟩ ⟨(Nat.le_of_ble_eq_true rfl), (Nat.le_of_ble_eq_true rfl)⟩ rfl hl.1 rfl (Nat.le_of_ble_eq_true rfl) d_Q_readMatches_37 ⟨(show 4 * (z.qst - x.qst) + 0 ≤ 4 * (rqP x.rms.1 x.rms.2.1 - x.qst) by omega), (show 2 * (z.qst - x.qst) + 4 * gn.eN + 4 * gt.eN + 2 * kN + 0 ≤ 12 * (rqP x.rms.1 x.rms.2.1 - x.qst) + 130 by omega)⟩) hP hD hS hA (fun r51 u52 H locs hp9 hP hD hS => ?_)
            obtain ⟨y1, h9u⟩ : ∃ z9, z9 = u52 := ⟨_, rfl⟩
            subst h9u
            have hP : va_P D vwCl ([(sp, .inr (13, [.int kd, .int (nI pl), .long nu, .ref na, .int (nI nn), .ref ln, .ref lt, .ref mk]))] ++ ([(mk, .inl (dA 1, kN, .inl fk))] ++ (VW dA h ad y1))) H := hP
            have hD : va_D A ([(sp, .inr (13, [.int kd, .int (nI pl), .long nu, .ref na, .int (nI nn), .ref ln, .ref lt, .ref mk]))] ++ ([(mk, .inl (dA 1, kN, .inl fk))] ++ (VW dA h ad y1))) := hD
            obtain ⟨hp9, f_e_53⟩ := hp9
            replace hp9 : 0 = r51 := Eq.symm hp9
            subst hp9
            obtain ⟨hk_y1, qq_y1, tk_y1⟩ := qok_rfq hkz f_e_53
            have qp_y1 := qr_tr hqz (qp_qr qq_y1)
            have ml_y1 : y1.ll = z.ll := qp_ll qq_y1
            have tt_y1 : y1.tk = rfT z.tk 2 z.tk.2.1 := by rw [tk_y1, show z.qst = z.tk.2.1 from rfl]
            have kb_y1 : y1.qst ≤ y1.qen ∧ y1.qen ≤ y1.qlen ∧ y1.qlen ≤ y1.tpN ∧ y1.tpN ≤ 131072 ∧ y1.qlen ≤ 16384 := ⟨hk_y1.2.2.2.2.2.1, hk_y1.2.2.2.2.2.2.1, hk_y1.2.1, hk_y1.2.2.1, hk_y1.2.2.2.1⟩
            have kq_y1 : y1.qtp = y1.tpA := hk_y1.1
            have kf_y1 : y1.tape = x.tape ∧ y1.qlen = x.qlen := ⟨(qr_f qp_y1).2.2.1, (qr_f qp_y1).2.1⟩
            have hP := pmP (show List.Perm (α := Nat × va_E) ([(sp, .inr (13, [.int kd, .int (nI pl), .long nu, .ref na, .int (nI nn), .ref ln, .ref lt, .ref mk]))] ++ ([(mk, .inl (dA 1, kN, .inl fk))] ++ (VW dA h ad y1))) ([(mk, .inl (dA 1, kN, .inl fk))] ++ ([(sp, .inr (13, [.int kd, .int (nI pl), .long nu, .ref na, .int (nI nn), .ref ln, .ref lt, .ref mk]))] ++ (VW dA h ad y1))) from List.perm_append_comm_assoc ([(sp, .inr (13, [.int kd, .int (nI pl), .long nu, .ref na, .int (nI nn), .ref ln, .ref lt, .ref mk]))]) ([(mk, .inl (dA 1, kN, .inl fk))]) (VW dA h ad y1)) hP
            have hD := pmD (show List.Perm (α := Nat × va_E) ([(sp, .inr (13, [.int kd, .int (nI pl), .long nu, .ref na, .int (nI nn), .ref ln, .ref lt, .ref mk]))] ++ ([(mk, .inl (dA 1, kN, .inl fk))] ++ (VW dA h ad y1))) ([(mk, .inl (dA 1, kN, .inl fk))] ++ ([(sp, .inr (13, [.int kd, .int (nI pl), .long nu, .ref na, .int (nI nn), .ref ln, .ref lt, .ref mk]))] ++ (VW dA h ad y1))) from List.perm_append_comm_assoc ([(sp, .inr (13, [.int kd, .int (nI pl), .long nu, .ref na, .int (nI nn), .ref ln, .ref lt, .ref mk]))]) ([(mk, .inl (dA 1, kN, .inl fk))]) (VW dA h ad y1)) hD
            exact rfZ hx hb hr (bI_nar false) hlk hS (⟨y1, mk, kN, fk, gn, gt⟩) (by have E := (er.symm.trans (rm_1 (by omega) g3)); have F1 : x.rms.1 = false := (by rw [E]); have F2 : x.rms.2.1 = rfT z.tk 2 z.tk.2.1 := (by rw [E]); have F3 : x.rms.2.2.1 = i := (by rw [E]); have F4 : x.rms.2.2.2.1 = KD := (by rw [E]); have F5 : x.rms.2.2.2.2.1 = MN := (by rw [E]); have F6 : x.rms.2.2.2.2.2 = MT := (by rw [E]); exact ⟨by rw [F1]; rfl, qp_y1, hk_y1, by rw [F2]; exact tt_y1, ml_y1.trans hlz, ⟨lg, lgt⟩, by rw [F3, F5, F6]; exact ⟨lwOk_m qq_y1.2 wn, lwOk_m qq_y1.2 wv⟩, by rw [F3, F4]; exact hkd, by rw [F3]; exact ⟨ck, show kN ≤ 262144 by omega⟩⟩) hP hD (show 4 * (z.qst - x.qst) + 0 ≤ 4 * (rqP x.rms.1 x.rms.2.1 - x.qst) by omega) (show 2 * (z.qst - x.qst) + 4 * gn.eN + 4 * gt.eN + 2 * kN + 0 ≤ 12 * (rqP x.rms.1 x.rms.2.1 - x.qst) + 130 by omega) d_Q_readMatches_40
    refine W.widen (k := 4 * (x.qst - x.qst)) (n := 2 * (x.qst - x.qst) + 4 * gA.eN + 4 * gB.eN + 2 * 2) (show 0 ≤ 4 * (x.qst - x.qst) from by have e1 := hz.1; have e2 := hz.2; omega) (show 0 ≤ 2 * (x.qst - x.qst) + 4 * gA.eN + 4 * gB.eN + 2 * 2 from by have e1 := hz.1; have e2 := hz.2; omega) ?_
    exact L13 _ 0 x mk 2 (fun _ => 0) gA gB (fun _ => 0) (fun _ => []) (fun _ => []) hk (qr_rf x) hll lg0 lg1 ⟨(lg0.1 hz.1).2, fun q hq => absurd hq (Nat.not_lt_zero q), fun q hq => absurd hq (by rw [hz.1]; exact Nat.not_lt_zero q)⟩ ⟨(lg1.1 hz.2).2, fun q hq => absurd hq (Nat.not_lt_zero q), fun q hq => absurd hq (by rw [hz.2]; exact Nat.not_lt_zero q)⟩ (fun q hq => absurd hq (Nat.not_lt_zero q)) (Nat.zero_le _) (by rw [hz.1]; exact Nat.zero_le _) (by rw [hz.2]; exact Nat.zero_le _) (Nat.le_refl _) (if_neg g1).symm (Nat.le_refl _) rfl H _ ls hP hD hS (lv_sub hl [0, 1, 2] rfl)
  · have g1 := g1
    refine lv_iconst (v := 1) hx hb d_Q_readMatches_9 (by decide) ?_
    have hP := pmP (show List.Perm (α := Nat × va_E) ([(sp, .inr (13, [.int kd, .int (nI pl), .long nu, .ref na, .int (nI nn), .ref ln, .ref lt, .ref mk]))] ++ ([(mk, .inl (dA 1, 2, .inl (fun _ => 0)))] ++ (VW dA h ad x))) ([(mk, .inl (dA 1, 2, .inl (fun _ => 0)))] ++ ([(sp, .inr (13, [.int kd, .int (nI pl), .long nu, .ref na, .int (nI nn), .ref ln, .ref lt, .ref mk]))] ++ (VW dA h ad x))) from List.perm_append_comm_assoc ([(sp, .inr (13, [.int kd, .int (nI pl), .long nu, .ref na, .int (nI nn), .ref ln, .ref lt, .ref mk]))]) ([(mk, .inl (dA 1, 2, .inl (fun _ => 0)))]) (VW dA h ad x)) hP
    have hD := pmD (show List.Perm (α := Nat × va_E) ([(sp, .inr (13, [.int kd, .int (nI pl), .long nu, .ref na, .int (nI nn), .ref ln, .ref lt, .ref mk]))] ++ ([(mk, .inl (dA 1, 2, .inl (fun _ => 0)))] ++ (VW dA h ad x))) ([(mk, .inl (dA 1, 2, .inl (fun _ => 0)))] ++ ([(sp, .inr (13, [.int kd, .int (nI pl), .long nu, .ref na, .int (nI nn), .ref ln, .ref lt, .ref mk]))] ++ (VW dA h ad x))) from List.perm_append_comm_assoc ([(sp, .inr (13, [.int kd, .int (nI pl), .long nu, .ref na, .int (nI nn), .ref ln, .ref lt, .ref mk]))]) ([(mk, .inl (dA 1, 2, .inl (fun _ => 0)))]) (VW dA h ad x)) hD
    exact rfZ hx hb hr (bI_nar true) hlk hS (⟨x, mk, 2, fun _ => 0, gA, gB⟩) (by have E := (show x.rms = (true, x.tk, 0, fun _ => 0, fun _ => [], fun _ => []) from if_pos g1); have F1 : x.rms.1 = true := (by rw [E]); have F2 : x.rms.2.1 = x.tk := (by rw [E]); have F3 : x.rms.2.2.1 = 0 := (by rw [E]); have F4 : x.rms.2.2.2.1 = fun _ => 0 := (by rw [E]); have F5 : x.rms.2.2.2.2.1 = fun _ => [] := (by rw [E]); have F6 : x.rms.2.2.2.2.2 = fun _ => [] := (by rw [E]); exact ⟨by rw [F1]; rfl, qr_rf x, hk, by rw [F2], hll, ⟨lg0, lg1⟩, by rw [F3, F5, F6]; exact ⟨⟨(lg0.1 hz.1).2, fun q hq => absurd hq (Nat.not_lt_zero q), fun q hq => absurd hq (by rw [hz.1]; exact Nat.not_lt_zero q)⟩, ⟨(lg1.1 hz.2).2, fun q hq => absurd hq (Nat.not_lt_zero q), fun q hq => absurd hq (by rw [hz.2]; exact Nat.not_lt_zero q)⟩⟩, by rw [F3, F4]; exact fun q hq => absurd hq (Nat.not_lt_zero q), by rw [F3]; exact ⟨Nat.zero_le _, show (2 : Nat) ≤ 262144 by decide⟩⟩) hP hD (show 0 ≤ 4 * (rqP x.rms.1 x.rms.2.1 - x.qst) by omega) (show 0 ≤ 12 * (rqP x.rms.1 x.rms.2.1 - x.qst) + 130 by omega) d_Q_readMatches_10
end
section
/-! What a question's text means: its steps. -/
abbrev SP1 : Type := Int32 × Nat × Int64 × Nat × (Nat → List Int32) × Nat × (Nat → Int32) × (Nat → List Int32) × (Nat → List Int32)
def isSP (dA : Nat → ClassId) (ws : va_W) (a : Nat) (s : SP1) : Prop := isStp dA ws a s.1 s.2.1 s.2.2.1 s.2.2.2.1 s.2.2.2.2.1 s.2.2.2.2.2.1 s.2.2.2.2.2.2.1 s.2.2.2.2.2.2.2.1 s.2.2.2.2.2.2.2.2
def spO (kd : Int32) (q : Nat) (nu : Int64) : SP1 := (kd, q, nu, 0, fun _ => [], 0, fun _ => 0, fun _ => [], fun _ => [])
theorem isSP_m {dA : Nat → ClassId} {ws ws' : va_W} {a : Nat} {s : SP1} (hs : ∀ c, c ∈ ws → c ∈ ws') (h : isSP dA ws a s) : isSP dA ws' a s := isStp_m hs h
/-- token and steps read -/
abbrev PR : Type := Bool × TKQ × List SP1
/-- from t on: on the tape, behind t, a byte at least for each step -/
def prG (n : Nat) (t : TKQ) (R : PR) : Prop := tkok n R.2.1 ∧ t.2.2.1 ≤ rqP R.1 R.2.1 ∧ t.2.1 + R.2.2.length ≤ R.2.1.2.1
/-- the same without steps -/
def prT (n : Nat) (t : TKQ) (b : Bool) (u : TKQ) : Prop := tkok n u ∧ t.2.2.1 ≤ rqP b u ∧ t.2.1 ≤ u.2.1
theorem prT_rf {n : Nat} {t : TKQ} {k : Int32} {q : Nat} (h : tkok n t) : prT n t false (rfT t k q) := ⟨rfT_ok h, Nat.le_of_eq (rfT_e t k q).2.2.symm, Nat.le_of_eq (rfT_e t k q).2.1.symm⟩
theorem prT_nx {f : Nat → Int32} {n : Nat} {t : TKQ} (h : tkok n t) : prT n t true (nxT f n t) := by
  have a := nx_ok (f := f) h.2.1
  refine ⟨a.1, a.2, ?_⟩
  have := h.1
  have := a.2
  omega
theorem prT_t {n : Nat} {t u : TKQ} (h : prT n t true u) : t.2.2.1 ≤ u.2.1 := h.2.1
theorem prT_tr {n : Nat} {t u v : TKQ} {b : Bool} (h1 : prT n t true u) (h2 : prT n u b v) (ht : t.2.1 ≤ t.2.2.1) : prT n t b v ∧ u.2.2.1 ≤ rqP b v := by
  obtain ⟨a1, a2, a3⟩ := h1
  obtain ⟨b1, b2, b3⟩ := h2
  have a2 : t.2.2.1 ≤ u.2.1 := a2
  have c1 := a1.1
  exact ⟨⟨b1, by omega, by omega⟩, b2⟩
theorem tk_P {f : Nat → Int32} {n : Nat} {t : TKQ} {k : Int32} (h : tkok n t) : prT n t (tkT f n t k).1 (tkT f n t k).2 := by
  unfold tkT
  split
  · exact prT_nx h
  · exact prT_rf h
theorem tk_y {f : Nat → Int32} {n : Nat} {t : TKQ} {k : Int32} (h : t.1 = k) : tkT f n t k = (true, nxT f n t) := if_pos h
theorem tk_n {f : Nat → Int32} {n : Nat} {t : TKQ} {k : Int32} (h : ¬ t.1 = k) : tkT f n t k = (false, rfT t 2 t.2.1) := if_neg h
theorem tk_b {f : Nat → Int32} {n : Nat} {t : TKQ} {k : Int32} {b : Bool} (h : decide (t.1 = k) = b) : (tkT f n t k).1 = b := by
  cases b with
  | true => rw [tk_y (of_decide_eq_true h)]
  | false => rw [tk_n (of_decide_eq_false h)]
theorem rn_T {f : Nat → Int32} {n : Nat} : ∀ {w k : Nat} {t : TKQ} {NL : Nat → List Int32}, tkok n t → t.2.1 ≤ (rnG f n w t k NL).2.1.2.1
  | 0, k, t, NL, h => Nat.le_refl _
  | w + 1, k, t, NL, h => by
    have a1 := nx_ok (f := f) h.2.1
    have a2 := nx_ok (f := f) a1.1.2.1
    have b0 := h.1
    have b1 := a1.1.1
    by_cases h1 : t.1 = 258
    · cases h2 : mtB NL k (tkw f t) with
      | false => rw [rn_2 (w := w + 1) (by omega) h1 h2]; exact Nat.le_of_eq (rfT_e t 4 t.2.1).2.1.symm
      | true =>
        by_cases h3 : (nxT f n t).1 = 44
        · rw [rn_4 (w := w + 1) (by omega) h1 h2 h3]
          have ih := rn_T (f := f) (n := n) (w := w + 1 - 1) (k := k + 1) (NL := va_up NL k (tkw f t)) a2.1
          omega
        · rw [rn_3 (w := w + 1) (by omega) h1 h2 h3]
          show t.2.1 ≤ (nxT f n t).2.1
          omega
    · rw [rn_1 (w := w + 1) (by omega) h1]; exact Nat.le_of_eq (rfT_e t 2 t.2.1).2.1.symm
theorem rm_T {f : Nat → Int32} {n w k : Nat} {t : TKQ} {KD : Nat → Int32} {MN MT : Nat → List Int32} (h : tkok n t) : t.2.1 ≤ (rmG f n w t k KD MN MT).2.1.2.1 := (rm_P h).2.2.2
/-- '(' names ')' -/
def rnH (f : Nat → Int32) (n : Nat) (t : TKQ) : RN := rnG f n 7 t 0 (fun _ => [])
def byC (f : Nat → Int32) (n : Nat) (b : RN) : RN := if b.1 = true then ((tkT f n b.2.1 41).1, (tkT f n b.2.1 41).2, b.2.2) else b
def byT (f : Nat → Int32) (n : Nat) (t : TKQ) : RN := if (tkT f n t 40).1 = true then byC f n (rnH f n (tkT f n t 40).2) else (false, (tkT f n t 40).2, 0, fun _ => [])
/-- by, or nothing -/
def fbT (f : Nat → Int32) (n : Nat) (t : TKQ) : RN := if t.1 = 258 ∧ sameW (tkw f t) (qsW 7) = true then byT f n (nxT f n t) else (true, t, 0, fun _ => [])
def msT (f : Nat → Int32) (n : Nat) (t : TKQ) : RM := if t.1 = 125 then (true, t, 0, fun _ => 0, fun _ => [], fun _ => []) else rmG f n n t 0 (fun _ => 0) (fun _ => []) (fun _ => [])
def tlD (f : Nat → Int32) (n : Nat) (b : RM) : RM := if b.1 = true then ((tkT f n b.2.1 41).1, (tkT f n b.2.1 41).2, b.2.2) else b
def tlC (f : Nat → Int32) (n : Nat) (b : RM) : RM := if b.1 = true then tlD f n ((tkT f n b.2.1 125).1, (tkT f n b.2.1 125).2, b.2.2) else b
def tlB (f : Nat → Int32) (n : Nat) (t : TKQ) : RM := if (tkT f n t 123).1 = true then tlC f n (msT f n (tkT f n t 123).2) else (false, (tkT f n t 123).2, 0, fun _ => 0, fun _ => [], fun _ => [])
/-- '(' '{' matches '}' ')' -/
def tlT (f : Nat → Int32) (n : Nat) (t : TKQ) : RM := if (tkT f n t 40).1 = true then tlB f n (tkT f n t 40).2 else (false, (tkT f n t 40).2, 0, fun _ => 0, fun _ => [], fun _ => [])
def pfS (f : Nat → Int32) (t : TKQ) (b : RN) (c : RM) : SP1 := (264, t.2.1, (fnV (tkw f t)).toInt64, b.2.2.1, b.2.2.2, c.2.2.1, c.2.2.2.1, c.2.2.2.2.1, c.2.2.2.2.2)
def pfB (f : Nat → Int32) (n : Nat) (t : TKQ) (b : RN) : PR := if b.1 = true then ((tlT f n b.2.1).1, (tlT f n b.2.1).2.1, [pfS f t b (tlT f n b.2.1)]) else (false, b.2.1, [spO 264 0 0])
/-- a function -/
def pFn (f : Nat → Int32) (n : Nat) (t : TKQ) : PR := if fnV (tkw f t) = (-1) then (false, rfT t 2 t.2.1, []) else pfB f n t (fbT f n (nxT f n t))
theorem fb_y {f : Nat → Int32} {n : Nat} {t : TKQ} (h : t.1 = 258) (h2 : sameW (tkw f t) (qsW 7) = true) : fbT f n t = byT f n (nxT f n t) := if_pos ⟨h, h2⟩
theorem fb_n {f : Nat → Int32} {n : Nat} {t : TKQ} (h : ¬ t.1 = 258 ∨ sameW (tkw f t) (qsW 7) = false) : fbT f n t = (true, t, 0, fun _ => []) := if_neg (fun z => by
  rcases h with h | h
  · exact h z.1
  · rw [z.2] at h; cases h)
theorem by_1 {f : Nat → Int32} {n : Nat} {t : TKQ} (h : (tkT f n t 40).1 = false) : byT f n t = (false, (tkT f n t 40).2, 0, fun _ => []) := if_neg (by rw [h]; decide)
theorem by_2 {f : Nat → Int32} {n : Nat} {t : TKQ} (h : (tkT f n t 40).1 = true) (h2 : (rnH f n (tkT f n t 40).2).1 = false) : byT f n t = rnH f n (tkT f n t 40).2 := (if_pos h).trans (if_neg (by rw [h2]; decide))
theorem by_3 {f : Nat → Int32} {n : Nat} {t : TKQ} (h : (tkT f n t 40).1 = true) (h2 : (rnH f n (tkT f n t 40).2).1 = true) : byT f n t = ((tkT f n (rnH f n (tkT f n t 40).2).2.1 41).1, (tkT f n (rnH f n (tkT f n t 40).2).2.1 41).2, (rnH f n (tkT f n t 40).2).2.2) := (if_pos h).trans (if_pos h2)
theorem rnH_P {f : Nat → Int32} {n : Nat} {t : TKQ} (h : tkok n t) : prT n t (rnH f n t).1 (rnH f n t).2.1 := ⟨(rn_P h).2, (rn_P h).1, rn_T h⟩
theorem by_P {f : Nat → Int32} {n : Nat} {t : TKQ} (h : tkok n t) : prT n t (byT f n t).1 (byT f n t).2.1 ∧ ((tkT f n t 40).1 = true → rqP (rnH f n (tkT f n t 40).2).1 (rnH f n (tkT f n t 40).2).2.1 ≤ rqP (byT f n t).1 (byT f n t).2.1) := by
  have a1 := tk_P (f := f) (k := 40) h
  cases h1 : (tkT f n t 40).1 with
  | false => rw [by_1 h1]; rw [h1] at a1; exact ⟨a1, fun z => by cases z⟩
  | true =>
    rw [h1] at a1
    have a2 := rnH_P (f := f) a1.1
    have a3 := (prT_tr a1 a2 h.1).1
    cases h2 : (rnH f n (tkT f n t 40).2).1 with
    | false =>
      rw [by_2 h1 h2]
      exact ⟨a3, fun _ => by rw [h2]; exact Nat.le_refl _⟩
    | true =>
      rw [by_3 h1 h2]
      rw [h2] at a2 a3
      have a4 := tk_P (f := f) (k := 41) a2.1
      have a5 := prT_tr a3 a4 h.1
      exact ⟨a5.1, fun _ => Nat.le_trans a2.1.1 a5.2⟩
theorem rnH_n {f : Nat → Int32} {n : Nat} (t : TKQ) : (rnH f n t).2.2.1 ≤ 6 := rn_n (Nat.zero_le 6)
theorem byT_n {f : Nat → Int32} {n : Nat} (t : TKQ) : (byT f n t).2.2.1 ≤ 6 := by
  cases h1 : (tkT f n t 40).1 with
  | false => rw [by_1 h1]; exact Nat.zero_le 6
  | true =>
    cases h2 : (rnH f n (tkT f n t 40).2).1 with
    | false => rw [by_2 h1 h2]; exact rnH_n _
    | true =>
      rw [by_3 h1 h2]
      show (rnH f n (tkT f n t 40).2).2.2.1 ≤ 6
      exact rnH_n _
theorem fb_P {f : Nat → Int32} {n : Nat} {t : TKQ} (h : tkok n t) : tkok n (fbT f n t).2.1 ∧ t.2.1 ≤ (fbT f n t).2.1.2.1 ∧ t.2.2.1 ≤ (fbT f n t).2.1.2.2.1 ∧ (fbT f n t).2.2.1 ≤ 6 := by
  by_cases h1 : t.1 = 258 ∧ sameW (tkw f t) (qsW 7) = true
  · rw [fb_y h1.1 h1.2]
    have a1 := prT_nx (f := f) h
    have a2 := (by_P (f := f) a1.1).1
    have a3 := (prT_tr a1 a2 h.1).1
    refine ⟨a3.1, a3.2.2, ?_, ?_⟩
    · have b1 := a3.2.1
      have b2 := a3.1.1
      unfold rqP at b1
      split at b1
      · omega
      · exact b1
    · exact byT_n _
  · have e : fbT f n t = (true, t, 0, fun _ => []) := if_neg h1
    rw [e]
    exact ⟨h, Nat.le_refl _, Nat.le_refl _, Nat.zero_le 6⟩
theorem ms_M {f : Nat → Int32} {n : Nat} {t : TKQ} (h : tkok n t) : tkok n (msT f n t).2.1 ∧ t.2.1 ≤ (msT f n t).2.1.2.1 ∧ t.2.2.1 ≤ (msT f n t).2.1.2.2.1 ∧ t.2.1 ≤ rqP (msT f n t).1 (msT f n t).2.1 := by
  unfold msT
  split
  · exact ⟨h, Nat.le_refl _, Nat.le_refl _, Nat.le_refl _⟩
  · have a := rm_P (f := f) (w := n) (k := 0) (KD := fun _ => 0) (MN := fun _ => []) (MT := fun _ => []) h
    have b := rm_T (f := f) (w := n) (k := 0) (KD := fun _ => 0) (MN := fun _ => []) (MT := fun _ => []) h
    have a1 := a.1
    have a2 := a.2.1.1
    have a3 := h.1
    refine ⟨a.2.1, b, ?_, by omega⟩
    unfold rqP at a1
    split at a1
    · omega
    · exact a1
theorem tlD_P {f : Nat → Int32} {n : Nat} {t : TKQ} {b : RM} (h : prT n t b.1 b.2.1) (ht : t.2.1 ≤ t.2.2.1) : prT n t (tlD f n b).1 (tlD f n b).2.1 := by
  unfold tlD
  split
  · rename_i g
    rw [g] at h
    exact (prT_tr h (tk_P h.1) ht).1
  · exact h
theorem tlC_P {f : Nat → Int32} {n : Nat} {t : TKQ} (h : tkok n t) : prT n t (tlC f n (msT f n t)).1 (tlC f n (msT f n t)).2.1 ∧ rqP (msT f n t).1 (msT f n t).2.1 ≤ rqP (tlC f n (msT f n t)).1 (tlC f n (msT f n t)).2.1 := by
  obtain ⟨a1, a2, a3, a4⟩ := ms_M (f := f) h
  unfold tlC
  split
  · rename_i g
    have c1 := tk_P (f := f) (k := 125) a1
    obtain ⟨d1, d2, d3⟩ := tlD_P (f := f) (b := ((tkT f n (msT f n t).2.1 125).1, (tkT f n (msT f n t).2.1 125).2, (msT f n t).2.2)) c1 a1.1
    refine ⟨⟨d1, by omega, by omega⟩, ?_⟩
    rw [g]
    have := a1.1
    show (msT f n t).2.1.2.1 ≤ _
    omega
  · rename_i g
    have g2 : (msT f n t).1 = false := by cases q : (msT f n t).1 with
      | true => exact absurd q g
      | false => rfl
    refine ⟨⟨a1, ?_, a2⟩, Nat.le_refl _⟩
    rw [g2]
    exact a3
theorem tlB_P {f : Nat → Int32} {n : Nat} {t : TKQ} (h : tkok n t) : prT n t (tlB f n t).1 (tlB f n t).2.1 ∧ ((tkT f n t 123).1 = true → rqP (msT f n (tkT f n t 123).2).1 (msT f n (tkT f n t 123).2).2.1 ≤ rqP (tlB f n t).1 (tlB f n t).2.1) := by
  have a1 := tk_P (f := f) (k := 123) h
  unfold tlB
  cases h1 : (tkT f n t 123).1 with
  | false =>
    rw [if_neg (by decide)]
    rw [h1] at a1
    exact ⟨a1, fun z => by cases z⟩
  | true =>
    rw [if_pos rfl]
    rw [h1] at a1
    have a2 := tlC_P (f := f) a1.1
    exact ⟨(prT_tr a1 a2.1 h.1).1, fun _ => a2.2⟩
theorem tl_P {f : Nat → Int32} {n : Nat} {t : TKQ} (h : tkok n t) : prT n t (tlT f n t).1 (tlT f n t).2.1 ∧ ((tkT f n t 40).1 = true → (tkT f n (tkT f n t 40).2 123).1 = true → rqP (msT f n (tkT f n (tkT f n t 40).2 123).2).1 (msT f n (tkT f n (tkT f n t 40).2 123).2).2.1 ≤ rqP (tlT f n t).1 (tlT f n t).2.1) := by
  have a1 := tk_P (f := f) (k := 40) h
  unfold tlT
  cases h1 : (tkT f n t 40).1 with
  | false =>
    rw [if_neg (by decide)]
    rw [h1] at a1
    exact ⟨a1, fun z => by cases z⟩
  | true =>
    rw [if_pos rfl]
    rw [h1] at a1
    have a2 := tlB_P (f := f) a1.1
    exact ⟨(prT_tr a1 a2.1 h.1).1, fun _ => a2.2⟩
/-- the paths of '(' '{' matches '}' ')' -/
theorem tl_1 {f : Nat → Int32} {n : Nat} {t : TKQ} (h : (tkT f n t 40).1 = false) : tlT f n t = (false, (tkT f n t 40).2, 0, fun _ => 0, fun _ => [], fun _ => []) := if_neg (by rw [h]; decide)
theorem tl_2 {f : Nat → Int32} {n : Nat} {t : TKQ} (h : (tkT f n t 40).1 = true) (h2 : (tkT f n (tkT f n t 40).2 123).1 = false) : tlT f n t = (false, (tkT f n (tkT f n t 40).2 123).2, 0, fun _ => 0, fun _ => [], fun _ => []) := (if_pos h).trans (if_neg (by rw [h2]; decide))
theorem tl_3 {f : Nat → Int32} {n : Nat} {t : TKQ} (h : (tkT f n t 40).1 = true) (h2 : (tkT f n (tkT f n t 40).2 123).1 = true) (h3 : (msT f n (tkT f n (tkT f n t 40).2 123).2).1 = false) : tlT f n t = msT f n (tkT f n (tkT f n t 40).2 123).2 := (if_pos h).trans ((if_pos h2).trans (if_neg (by rw [h3]; decide)))
theorem tl_4 {f : Nat → Int32} {n : Nat} {t : TKQ} (h : (tkT f n t 40).1 = true) (h2 : (tkT f n (tkT f n t 40).2 123).1 = true) {M : RM} (hM : msT f n (tkT f n (tkT f n t 40).2 123).2 = M) (h3 : M.1 = true) (h4 : (tkT f n M.2.1 125).1 = false) : tlT f n t = (false, (tkT f n M.2.1 125).2, M.2.2) := by
  refine (if_pos h).trans ((if_pos h2).trans ?_)
  rw [hM]
  refine (if_pos h3).trans ((if_neg ?_).trans ?_)
  · show ¬ (tkT f n M.2.1 125).1 = true
    rw [h4]; decide
  · rw [h4]
theorem tl_5 {f : Nat → Int32} {n : Nat} {t : TKQ} (h : (tkT f n t 40).1 = true) (h2 : (tkT f n (tkT f n t 40).2 123).1 = true) {M : RM} (hM : msT f n (tkT f n (tkT f n t 40).2 123).2 = M) (h3 : M.1 = true) (h4 : (tkT f n M.2.1 125).1 = true) : tlT f n t = ((tkT f n (tkT f n M.2.1 125).2 41).1, (tkT f n (tkT f n M.2.1 125).2 41).2, M.2.2) := by
  refine (if_pos h).trans ((if_pos h2).trans ?_)
  rw [hM]
  exact (if_pos h3).trans (if_pos h4)
theorem pF_0 {f : Nat → Int32} {n : Nat} {t : TKQ} (h : fnV (tkw f t) = (-1)) : pFn f n t = (false, rfT t 2 t.2.1, []) := if_pos h
theorem pF_1 {f : Nat → Int32} {n : Nat} {t : TKQ} {b : RN} (h : ¬ fnV (tkw f t) = (-1)) (hb : fbT f n (nxT f n t) = b) (h2 : b.1 = false) : pFn f n t = (false, b.2.1, [spO 264 0 0]) := by
  refine (if_neg h).trans ?_
  rw [hb]
  exact if_neg (by rw [h2]; decide)
theorem pF_2 {f : Nat → Int32} {n : Nat} {t : TKQ} {b : RN} {M : RM} (h : ¬ fnV (tkw f t) = (-1)) (hb : fbT f n (nxT f n t) = b) (h2 : b.1 = true) (hM : tlT f n b.2.1 = M) : pFn f n t = (M.1, M.2.1, [pfS f t b M]) := by
  refine (if_neg h).trans ?_
  rw [hb]
  refine (if_pos h2).trans ?_
  rw [hM]
theorem fb_T {f : Nat → Int32} {n : Nat} {t : TKQ} (h : tkok n t) (hb : (fbT f n t).1 = false) : prT n t false (fbT f n t).2.1 := by
  obtain ⟨a1, a2, a3, -⟩ := fb_P (f := f) h
  exact ⟨a1, a3, a2⟩
theorem pFn_P {f : Nat → Int32} {n : Nat} {t : TKQ} (h : tkok n t) (hk : t.1 = 258) : prG n t (pFn f n t) := by
  by_cases h0 : fnV (tkw f t) = (-1)
  · rw [pF_0 h0]
    have a := prT_rf (k := 2) (q := t.2.1) h
    exact ⟨a.1, a.2.1, a.2.2⟩
  · have a1 := prT_nx (f := f) h
    have a2 : t.2.2.1 ≤ (nxT f n t).2.1 := a1.2.1
    have a4 : t.2.1 < t.2.2.1 := h.2.2.1 (by rw [hk]; decide)
    have a5 := a1.1.1
    obtain ⟨b1, b2, b3, -⟩ := fb_P (f := f) a1.1
    cases h1 : (fbT f n (nxT f n t)).1 with
    | false =>
      rw [pF_1 h0 rfl h1]
      refine ⟨b1, ?_, ?_⟩
      · show t.2.2.1 ≤ (fbT f n (nxT f n t)).2.1.2.2.1
        omega
      · show t.2.1 + 1 ≤ (fbT f n (nxT f n t)).2.1.2.1
        omega
    | true =>
      rw [pF_2 h0 rfl h1 rfl]
      obtain ⟨d1, d2, d3⟩ := (tl_P (f := f) b1).1
      have b4 := b1.1
      refine ⟨d1, ?_, ?_⟩
      · show t.2.2.1 ≤ rqP (tlT f n (fbT f n (nxT f n t)).2.1).1 (tlT f n (fbT f n (nxT f n t)).2.1).2.1
        omega
      · show t.2.1 + 1 ≤ (tlT f n (fbT f n (nxT f n t)).2.1).2.1.2.1
        omega
/-- what a function's reading costs: each of its parts lies before its end -/
theorem pFn_C {f : Nat → Int32} {n : Nat} {t : TKQ} (h : tkok n t) (h0 : ¬ fnV (tkw f t) = (-1)) : (pFn f n t).2.2.length = 1 ∧ (nxT f n t).2.2.1 ≤ rqP (pFn f n t).1 (pFn f n t).2.1 ∧ ((nxT f n t).1 = 258 → sameW (tkw f (nxT f n t)) (qsW 7) = true → (tkT f n (nxT f n (nxT f n t)) 40).1 = true → rqP (rnH f n (tkT f n (nxT f n (nxT f n t)) 40).2).1 (rnH f n (tkT f n (nxT f n (nxT f n t)) 40).2).2.1 ≤ rqP (pFn f n t).1 (pFn f n t).2.1) ∧ ((fbT f n (nxT f n t)).1 = true → (tkT f n (fbT f n (nxT f n t)).2.1 40).1 = true → (tkT f n (tkT f n (fbT f n (nxT f n t)).2.1 40).2 123).1 = true → rqP (msT f n (tkT f n (tkT f n (fbT f n (nxT f n t)).2.1 40).2 123).2).1 (msT f n (tkT f n (tkT f n (fbT f n (nxT f n t)).2.1 40).2 123).2).2.1 ≤ rqP (pFn f n t).1 (pFn f n t).2.1) := by
  have a1 := prT_nx (f := f) h
  obtain ⟨b1, b2, b3, -⟩ := fb_P (f := f) a1.1
  have key : ∀ (z1 : (nxT f n t).1 = 258) (z2 : sameW (tkw f (nxT f n t)) (qsW 7) = true) (z3 : (tkT f n (nxT f n (nxT f n t)) 40).1 = true), rqP (rnH f n (tkT f n (nxT f n (nxT f n t)) 40).2).1 (rnH f n (tkT f n (nxT f n (nxT f n t)) 40).2).2.1 ≤ rqP (fbT f n (nxT f n t)).1 (fbT f n (nxT f n t)).2.1 := by
    intro z1 z2 z3
    rw [fb_y z1 z2]
    exact (by_P (f := f) (prT_nx (f := f) a1.1).1).2 z3
  cases h1 : (fbT f n (nxT f n t)).1 with
  | false =>
    rw [pF_1 h0 rfl h1]
    rw [h1] at key
    exact ⟨rfl, b3, key, fun z => by cases z⟩
  | true =>
    rw [pF_2 h0 rfl h1 rfl]
    rw [h1] at key
    have d := tl_P (f := f) b1
    obtain ⟨d1, d2, d3⟩ := d.1
    refine ⟨rfl, ?_, fun z1 z2 z3 => ?_, fun _ => d.2⟩
    · show _ ≤ rqP (tlT f n (fbT f n (nxT f n t)).2.1).1 (tlT f n (fbT f n (nxT f n t)).2.1).2.1
      omega
    · have k := key z1 z2 z3
      have k2 : rqP true (fbT f n (nxT f n t)).2.1 = (fbT f n (nxT f n t)).2.1.2.1 := rfl
      have b4 := b1.1
      show _ ≤ rqP (tlT f n (fbT f n (nxT f n t)).2.1).1 (tlT f n (fbT f n (nxT f n t)).2.1).2.1
      omega
end
section
/-! The list of steps while a question is read. -/
theorem llT {dA : Nat → ClassId} {h : Nat} {ad : Nat → Nat} (x : VS) (L : va_W) : (L ++ VW dA h ad x).Perm (VW dA h ad (VS.s_ll x (L ++ x.ll))) := by
  have a := llP (dA := dA) (h := h) (ad := ad) (x := VS.s_ll x (L ++ x.ll)) (L := L) (r := x.ll) rfl
  have e : VS.s_ll (VS.s_ll x (L ++ x.ll)) x.ll = x := rfl
  rw [e] at a
  exact a.symm
def cpR (c k : Nat) : Nat → Nat
  | 0 => c
  | i + 1 => if k + i < cpR c k i then cpR c k i else grN (cpR c k i)
theorem cpR_tr (c k i : Nat) : ∀ j, cpR (cpR c k i) (k + i) j = cpR c k (i + j)
  | 0 => rfl
  | j + 1 => by
    show (if k + i + j < cpR (cpR c k i) (k + i) j then cpR (cpR c k i) (k + i) j else grN (cpR (cpR c k i) (k + i) j)) = (if k + (i + j) < cpR c k (i + j) then cpR c k (i + j) else grN (cpR c k (i + j)))
    rw [cpR_tr c k i j, show k + i + j = k + (i + j) by omega]
theorem cpR_le (c k : Nat) : ∀ i, c ≤ cpR c k i
  | 0 => Nat.le_refl c
  | i + 1 => by
    have ih := cpR_le c k i
    show c ≤ (if k + i < cpR c k i then cpR c k i else grN (cpR c k i))
    split
    · exact ih
    · unfold grN
      split <;> omega
theorem cpR_1 (g : LI) : cpR g.eN g.sz 1 = gqN g := rfl
/-- steps' list: its array, its elements steps -/
def stL (e0 : Nat) (pl : va_W) (g : LI) : Prop := lqOk e0 g ∧ ∀ i : Nat, i < g.eN → ∀ y : Nat, g.el i = some y → ∃ vs : List Value, (y, .inr (13, vs)) ∈ pl
theorem stL_m {e0 : Nat} {pl pl' : va_W} {g : LI} (hs : ∀ c, c ∈ pl → c ∈ pl') (h : stL e0 pl g) : stL e0 pl' g := ⟨h.1, fun i hi y hy => by obtain ⟨vs, hv⟩ := h.2 i hi y hy; exact ⟨vs, hs _ hv⟩⟩
theorem stL_s {e0 v : Nat} {pl : va_W} {g g' : LI} {fs : List Value} (h : stL e0 pl g) (ha : adQ g v g') (hv : (v, .inr (13, fs)) ∈ pl) (hs : g.sz ≤ 16384) : stL e0 pl g' := by
  refine ⟨lq_s h.1 ha hs, fun i hi y hy => ?_⟩
  rcases ha.2.2.2.2.1 i y hi hy with e | ⟨j, e1, e2⟩
  · subst e
    exact ⟨fs, hv⟩
  · exact h.2 j e1 y e2
/-- before a part of a question is read -/
def VS.pw (dA : Nat → ClassId) (e0 sa : Nat) (r : va_W) (x : VS) (g : LI) : Prop := x.qok ∧ x.ll = LqW dA sa g ++ r ∧ stL e0 x.pl g ∧ g.sz ≤ x.qst
/-- steps from place k on -/
def stps (dA : Nat → ClassId) (pl : va_W) (g : LI) (k : Nat) (S : List SP1) : Prop := ∀ i, i < S.length → ∃ a : Nat, g.el (k + i) = some a ∧ isSP dA pl a (S.getD i (spO 0 0 0))
/-- behind it -/
def VS.pq (dA : Nat → ClassId) (e0 sa : Nat) (r : va_W) (x : VS) (g : LI) (R : PR) (y : VS) (gq : LI) : Prop :=
  x.qr y ∧ y.tk = R.2.1 ∧ VS.pw dA e0 sa r y gq ∧ gq.sz = g.sz + R.2.2.length ∧ gq.eN = cpR g.eN g.sz R.2.2.length ∧ (∀ q, q < g.sz → gq.el q = g.el q) ∧ (R.1 = true → stps dA y.pl gq g.sz R.2.2)
theorem stps_m {dA : Nat → ClassId} {pl pl' : va_W} {g g' : LI} {k : Nat} {S : List SP1} (h : stps dA pl g k S) (hs : ∀ c, c ∈ pl → c ∈ pl') (he : ∀ q, q < k + S.length → g'.el q = g.el q) : stps dA pl' g' k S := by
  intro i hi
  obtain ⟨a, e1, e2⟩ := h i hi
  exact ⟨a, (he _ (by omega)).trans e1, isSP_m hs e2⟩
theorem stps_app {dA : Nat → ClassId} {pl : va_W} {g : LI} {k : Nat} {S T : List SP1} (h1 : stps dA pl g k S) (h2 : stps dA pl g (k + S.length) T) : stps dA pl g k (S ++ T) := by
  intro i hi
  rw [List.length_append] at hi
  by_cases e : i < S.length
  · obtain ⟨a, e1, e2⟩ := h1 i e
    refine ⟨a, e1, ?_⟩
    rw [List.getD_eq_getElem?_getD, List.getElem?_append_left e, ← List.getD_eq_getElem?_getD]
    exact e2
  · obtain ⟨a, e1, e2⟩ := h2 (i - S.length) (by omega)
    refine ⟨a, ?_, ?_⟩
    · rw [← e1]; congr 1; omega
    · rw [List.getD_eq_getElem?_getD, List.getElem?_append_right (by omega), ← List.getD_eq_getElem?_getD]
      exact e2
theorem stps_1 {dA : Nat → ClassId} {pl : va_W} {g : LI} {k a : Nat} {s : SP1} (h1 : g.el k = some a) (h2 : isSP dA pl a s) : stps dA pl g k [s] := by
  intro i hi
  have e : i = 0 := by
    have : i < 1 := hi
    omega
  subst e
  exact ⟨a, h1, h2⟩
/-- one more step -/
theorem pq_add {dA : Nat → ClassId} {e0 sa v : Nat} {r : va_W} {x y z : VS} {g g1 g2 : LI} {R : PR} {s : SP1} {fs : List Value} {n : Nat} (h : VS.pq dA e0 sa r x g R y g1) (hv : (v, .inr (13, fs)) ∈ y.pl) (hs : R.1 = true → isSP dA y.pl v s) (ha : adQ g1 v g2) (hz : z = VS.s_ll y (LqW dA sa g2 ++ r)) (hn : y.qlen ≤ n) (hn2 : n ≤ 16384) (hg : g1.sz < y.qst) : VS.pq dA e0 sa r x g (R.1, R.2.1, R.2.2 ++ [s]) z g2 := by
  obtain ⟨k1, k2, ⟨w1, w2, w3, w4⟩, k3, k4, k5, k6⟩ := h
  have hq := w1.2.2.2.2.2.2.1
  have hq2 := w1.2.2.2.2.2.1
  have hq3 : y.qen ≤ y.qlen := hq
  have hq4 : y.qst ≤ y.qen := hq2
  obtain ⟨b1, b2, b3, b4, b5, b6⟩ := ha
  subst hz
  refine ⟨qr_tr k1 (qr_ll y _), k2, ⟨qok_ll w1, rfl, stL_s w3 ⟨b1, b2, b3, b4, b5, b6⟩ hv (by omega), ?_⟩, ?_, ?_, ?_, ?_⟩
  · show g2.sz ≤ y.qst
    omega
  · show g2.sz = g.sz + (R.2.2 ++ [s]).length
    rw [List.length_append, b1, k3]
    rfl
  · show g2.eN = cpR g.eN g.sz (R.2.2 ++ [s]).length
    rw [List.length_append, b2]
    show gqN g1 = (if g.sz + R.2.2.length < cpR g.eN g.sz R.2.2.length then _ else _)
    rw [← k4, ← k3]
    rfl
  · intro q hq
    exact (b3 q (by omega)).trans (k5 q hq)
  · intro hR
    refine stps_app (stps_m (k6 hR) (fun _ h => h) (fun q hq => b3 q (by omega))) (stps_1 ?_ (hs hR))
    rw [← k3]
    exact b4
/-- a part, then one from behind it -/
theorem pq_tr {dA : Nat → ClassId} {e0 sa : Nat} {r : va_W} {x y y2 z : VS} {g g1 g2 : LI} {R R2 : PR} (h : VS.pq dA e0 sa r x g R y g1) (hR : R.1 = true) (hy : y.qr y2) (h2 : VS.pq dA e0 sa r y2 g1 R2 z g2) : VS.pq dA e0 sa r x g (R2.1, R2.2.1, R.2.2 ++ R2.2.2) z g2 := by
  obtain ⟨k1, k2, k0, k3, k4, k5, k6⟩ := h
  obtain ⟨b1, b2, b0, b3, b4, b5, b6⟩ := h2
  refine ⟨qr_tr (qr_tr k1 hy) b1, b2, b0, ?_, ?_, ?_, ?_⟩
  · show g2.sz = g.sz + (R.2.2 ++ R2.2.2).length
    rw [List.length_append, b3, k3, Nat.add_assoc]
  · show g2.eN = cpR g.eN g.sz (R.2.2 ++ R2.2.2).length
    rw [List.length_append, b4, k4, k3, cpR_tr]
  · intro q hq
    exact (b5 q (by omega)).trans (k5 q hq)
  · intro hR2
    refine stps_app (stps_m (k6 hR) (fun c hc => b1.2 c (hy.2 c hc)) (fun q hq => b5 q (by omega))) ?_
    rw [← k3]
    exact b6 hR2
/-- nothing but tokens -/
theorem pq_0 {dA : Nat → ClassId} {e0 sa : Nat} {r : va_W} {x y : VS} {g : LI} {b : Bool} {t : TKQ} (h : VS.pw dA e0 sa r x g) (hq : x.qp y) (hk : y.qok) (ht : y.tk = t) (hs : x.qst ≤ t.2.1) : VS.pq dA e0 sa r x g (b, t, []) y g := by
  refine ⟨qp_qr hq, ht, ⟨hk, (qp_ll hq).trans h.2.1, stL_m hq.2 h.2.2.1, ?_⟩, rfl, rfl, fun _ _ => rfl, fun _ i hi => absurd hi (Nat.not_lt_zero i)⟩
  have h4 := h.2.2.2
  have e : y.qst = t.2.1 := congrArg (fun q : TKQ => q.2.1) ht
  omega
theorem isLst_0 {dA : Nat → ClassId} {pl : va_W} {a ea : Nat} {mc : Int32} {WL : Nat → List Int32} (h : (a, .inr (6, [.ref ea, .int 0, .int mc])) ∈ pl) : isLst dA pl a 0 WL := ⟨ea, mc, h, by decide, fun h => absurd h (by decide)⟩
/-- a step without names and matches -/
theorem isSP_o {dA : Nat → ClassId} {pl : va_W} {sp na ln lt mk ea eb : Nat} {kd mc md : Int32} {q : Nat} {nu : Int64} {fn : Nat → Option Nat} {fk : Nat → Int32} (h1 : (sp, .inr (13, [.int kd, .int (nI q), .long nu, .ref na, .int 0, .ref ln, .ref lt, .ref mk])) ∈ pl) (h2 : (na, .inl (dA 6, 0, .inr (.inr (.inr (.inr fn))))) ∈ pl) (h3 : (ln, .inr (6, [.ref ea, .int 0, .int mc])) ∈ pl) (h4 : (lt, .inr (6, [.ref eb, .int 0, .int md])) ∈ pl) (h5 : (mk, .inl (dA 1, 0, .inl fk)) ∈ pl) : isSP dA pl sp (spO kd q nu) :=
  ⟨na, ln, lt, mk, 0, 0, fn, fk, h1, h2, Nat.le_refl _, by decide, fun k hk => absurd hk (Nat.not_lt_zero k), isLst_0 h3, isLst_0 h4, h5, Nat.le_refl _, by decide, fun i hi => absurd hi (Nat.not_lt_zero i)⟩
theorem isLst_q {dA : Nat → ClassId} {pl : va_W} {a e0 n : Nat} {g : LI} {WL : Nat → List Int32} (hg : lqOk e0 g) (hw : lwOk dA pl g n WL) (hs : ∀ c, c ∈ LqW dA a g → c ∈ pl) : isLst dA pl a n WL := by
  obtain ⟨k1, k2, k3⟩ := hg
  obtain ⟨w1, w2, w3⟩ := hw
  subst w1
  refine ⟨g.eA, g.mc, hs _ (List.mem_append_left _ (List.mem_singleton.mpr rfl)), by omega, fun h0 => ⟨g.eN, g.el, ?_, k2, by omega, w2⟩⟩
  refine hs _ (List.mem_append_right _ ?_)
  unfold LqA
  rw [if_neg (by omega)]
  exact List.mem_singleton.mpr rfl
/-- the new list -/
def lqZ (e0 : Nat) : LI := (0, 0, e0, 0, fun _ => none)
theorem lqZ_ok (e0 : Nat) : lqOk e0 (lqZ e0) := ⟨fun _ => ⟨rfl, rfl⟩, Nat.le_refl _, show (0 : Nat) ≤ 65536 by decide⟩
theorem lqZ_w (dA : Nat → ClassId) (a e0 : Nat) : LqW dA a (lqZ e0) = [(a, .inr (6, [.ref e0, .int 0, .int 0]))] := by
  rw [LqW_0 (show (lqZ e0).eN = 0 from rfl)]
  rfl
/-- a function's step, added before its names and matches are read -/
theorem pq_fn {dA : Nat → ClassId} {e0 sa v : Nat} {r : va_W} {x y : VS} {g g1 : LI} {b : Bool} {t : TKQ} {s : SP1} (h : VS.pw dA e0 sa r x g) (hq : x.qr y) (hk : y.qok) (ht : y.tk = t) (hl : y.ll = LqW dA sa g1 ++ r) (ha : adQ g v g1) (hm : ∃ vs : List Value, (v, .inr (13, vs)) ∈ y.pl) (hs : b = true → isSP dA y.pl v s) (hlt : x.qst < y.qst) : VS.pq dA e0 sa r x g (b, t, [s]) y g1 := by
  obtain ⟨w1, w2, w3, w4⟩ := h
  obtain ⟨b1, b2, b3, b4, b5, b6⟩ := ha
  obtain ⟨vs, hv⟩ := hm
  have c1 : x.qst ≤ x.qen := w1.2.2.2.2.2.1
  have c2 : x.qen ≤ x.qlen := w1.2.2.2.2.2.2.1
  have c3 := w1.2.2.2.1
  refine ⟨hq, ht, ⟨hk, hl, stL_s (stL_m hq.2 w3) ⟨b1, b2, b3, b4, b5, b6⟩ hv (by omega), by omega⟩, b1, ?_, b3, fun hb => stps_1 b4 (hs hb)⟩
  show g1.eN = cpR g.eN g.sz 1
  rw [b2]
  rfl
end
