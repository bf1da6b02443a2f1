/-! Names of a function read. -/
def rqP (b : Bool) (t : TKQ) : Nat := if b = true then t.2.1 else t.2.2.1
theorem rqP_t (t : TKQ) : rqP true t = t.2.1 := rfl
theorem rqP_f (t : TKQ) : rqP false t = t.2.2.1 := rfl
abbrev RN : Type := Bool × TKQ × Nat × (Nat → List Int32)
def tkw (f : Nat → Int32) (t : TKQ) : List Int32 := seg f t.2.1 t.2.2.1
def rnG (f : Nat → Int32) (n : Nat) : Nat → TKQ → Nat → (Nat → List Int32) → RN
  | 0, t, k, NL => (false, t, k, NL)
  | w + 1, t, k, NL =>
    if ¬ t.1 = 258 then (false, rfT t 2 t.2.1, k, NL) else
    if mtB NL k (tkw f t) = false then (false, rfT t 4 t.2.1, k, NL) else
    if ¬ (nxT f n t).1 = 44 then (true, nxT f n t, k + 1, va_up NL k (tkw f t)) else
    rnG f n w (nxT f n (nxT f n t)) (k + 1) (va_up NL k (tkw f t))
theorem rn_1 {f : Nat → Int32} {n w k : Nat} {t : TKQ} {NL : Nat → List Int32} (hw : 0 < w) (h : ¬ t.1 = 258) : rnG f n w t k NL = (false, rfT t 2 t.2.1, k, NL) := by
  obtain ⟨d, rfl⟩ : ∃ d, w = d + 1 := ⟨w - 1, by omega⟩
  exact if_pos h
theorem rn_2 {f : Nat → Int32} {n w k : Nat} {t : TKQ} {NL : Nat → List Int32} (hw : 0 < w) (h : t.1 = 258) (h2 : mtB NL k (tkw f t) = false) : rnG f n w t k NL = (false, rfT t 4 t.2.1, k, NL) := by
  obtain ⟨d, rfl⟩ : ∃ d, w = d + 1 := ⟨w - 1, by omega⟩
  exact (if_neg (fun z => z h)).trans (if_pos h2)
theorem rn_3 {f : Nat → Int32} {n w k : Nat} {t : TKQ} {NL : Nat → List Int32} (hw : 0 < w) (h : t.1 = 258) (h2 : mtB NL k (tkw f t) = true) (h3 : ¬ (nxT f n t).1 = 44) : rnG f n w t k NL = (true, nxT f n t, k + 1, va_up NL k (tkw f t)) := by
  obtain ⟨d, rfl⟩ : ∃ d, w = d + 1 := ⟨w - 1, by omega⟩
  exact (if_neg (fun z => z h)).trans ((if_neg (by rw [h2]; decide)).trans (if_pos h3))
theorem rn_4 {f : Nat → Int32} {n w k : Nat} {t : TKQ} {NL : Nat → List Int32} (hw : 0 < w) (h : t.1 = 258) (h2 : mtB NL k (tkw f t) = true) (h3 : (nxT f n t).1 = 44) : rnG f n w t k NL = rnG f n (w - 1) (nxT f n (nxT f n t)) (k + 1) (va_up NL k (tkw f t)) := by
  obtain ⟨d, rfl⟩ : ∃ d, w = d + 1 := ⟨w - 1, by omega⟩
  exact (if_neg (fun z => z h)).trans ((if_neg (by rw [h2]; decide)).trans (if_neg (fun z => z h3)))
/-- how far it goes -/
theorem rn_P {f : Nat → Int32} {n : Nat} : ∀ {w k : Nat} {t : TKQ} {NL : Nat → List Int32}, tkok n t → t.2.2.1 ≤ rqP (rnG f n w t k NL).1 (rnG f n w t k NL).2.1 ∧ tkok n (rnG f n w t k NL).2.1
  | 0, k, t, NL, h => ⟨Nat.le_refl _, h⟩
  | w + 1, k, t, NL, h => by
    have a1 := nx_ok (f := f) h.2.1
    have a2 := nx_ok (f := f) a1.1.2.1
    by_cases h1 : t.1 = 258
    · cases h2 : mtB NL k (tkw f t) with
      | false =>
        rw [rn_2 (w := w + 1) (by omega) h1 h2]
        exact ⟨Nat.le_of_eq (rfT_e t 4 t.2.1).2.2.symm, rfT_ok h⟩
      | true =>
        by_cases h3 : (nxT f n t).1 = 44
        · rw [rn_4 (w := w + 1) (by omega) h1 h2 h3]
          have ih := rn_P (f := f) (n := n) (w := w + 1 - 1) (k := k + 1) (NL := va_up NL k (tkw f t)) a2.1
          refine ⟨?_, ih.2⟩
          have := ih.1
          have := a2.1.1
          have := a1.1.1
          have := a1.2
          have := a2.2
          omega
        · rw [rn_3 (w := w + 1) (by omega) h1 h2 h3]
          exact ⟨a1.2, a1.1⟩
    · rw [rn_1 (w := w + 1) (by omega) h1]
      exact ⟨Nat.le_of_eq (rfT_e t 2 t.2.1).2.2.symm, rfT_ok h⟩
theorem rn_n {f : Nat → Int32} {n : Nat} : ∀ {w k : Nat} {t : TKQ} {NL : Nat → List Int32}, k ≤ 6 → (rnG f n w t k NL).2.2.1 ≤ 6
  | 0, k, t, NL, h => h
  | w + 1, k, t, NL, h => by
    by_cases h1 : t.1 = 258
    · cases h2 : mtB NL k (tkw f t) with
      | false => rw [rn_2 (w := w + 1) (by omega) h1 h2]; exact h
      | true =>
        have h6 : k < 6 := by
          unfold mtB at h2
          rw [Bool.and_eq_true] at h2
          exact of_decide_eq_true h2.2
        by_cases h3 : (nxT f n t).1 = 44
        · rw [rn_4 (w := w + 1) (by omega) h1 h2 h3]
          exact rn_n (w := w + 1 - 1) h6
        · rw [rn_3 (w := w + 1) (by omega) h1 h2 h3]
          exact h6
    · rw [rn_1 (w := w + 1) (by omega) h1]; exact h
def VS.rnm (x : VS) : RN := rnG x.tape x.qlen 7 x.tk 0 (fun _ => [])
theorem nmOk_s {dA : Nat → ClassId} {ws : va_W} {fn : Nat → Option Nat} {k p : Nat} {NL : Nat → List Int32} {M : List Int32} (h : nmOk dA ws fn k NL) (hw : isWo dA ws p M) (hl : M.length ≤ 65536) : nmOk dA ws (va_up fn k (some p)) (k + 1) (va_up NL k M) := by
  intro q hq
  by_cases e : q = k
  · refine ⟨p, if_pos e, ?_, ?_⟩
    · rw [show va_up NL k M q = M from if_pos e]; exact hw
    · rw [show va_up NL k M q = M from if_pos e]; exact hl
  · obtain ⟨p1, a1, a2, a3⟩ := h q (by omega)
    refine ⟨p1, (if_neg e).trans a1, ?_, ?_⟩
    · rw [show va_up NL k M q = NL q from if_neg e]; exact a2
    · rw [show va_up NL k M q = NL q from if_neg e]; exact a3
theorem d_Q_readNames_0 : decode prog_6_method_12_code 0 = .ok (.iconst 0, 1) := by decide +kernel
theorem d_Q_readNames_1 : decode prog_6_method_12_code 1 = .ok (.istore_n 2, 1) := by decide +kernel
theorem d_Q_readNames_2 : decode prog_6_method_12_code 2 = .ok (.iload_n 2, 1) := by decide +kernel
theorem d_Q_readNames_3 : decode prog_6_method_12_code 3 = .ok (.bipush 6, 2) := by decide +kernel
theorem d_Q_readNames_5 : decode prog_6_method_12_code 5 = .ok (.if_icmp .gt 76, 3) := by decide +kernel
theorem d_Q_readNames_8 : decode prog_6_method_12_code 8 = .ok (.aload_n 0, 1) := by decide +kernel
theorem d_Q_readNames_9 : decode prog_6_method_12_code 9 = .ok (.getfield 45, 3) := by decide +kernel
theorem d_Q_readNames_12 : decode prog_6_method_12_code 12 = .ok (.sipush 258, 3) := by decide +kernel
theorem d_Q_readNames_15 : decode prog_6_method_12_code 15 = .ok (.if_icmp .eq 13, 3) := by decide +kernel
theorem d_Q_readNames_28 : decode prog_6_method_12_code 28 = .ok (.aload_n 0, 1) := by decide +kernel
theorem d_Q_readNames_29 : decode prog_6_method_12_code 29 = .ok (.invokevirtual 87, 3) := by decide +kernel
theorem d_Q_readNames_32 : decode prog_6_method_12_code 32 = .ok (.astore_n 3, 1) := by decide +kernel
theorem d_Q_readNames_33 : decode prog_6_method_12_code 33 = .ok (.aload_n 1, 1) := by decide +kernel
theorem d_Q_readNames_34 : decode prog_6_method_12_code 34 = .ok (.aload_n 3, 1) := by decide +kernel
theorem d_Q_readNames_35 : decode prog_6_method_12_code 35 = .ok (.invokevirtual 124, 3) := by decide +kernel
theorem d_Q_readNames_38 : decode prog_6_method_12_code 38 = .ok (.ifCond .ne 13, 3) := by decide +kernel
theorem d_Q_readNames_51 : decode prog_6_method_12_code 51 = .ok (.aload_n 1, 1) := by decide +kernel
theorem d_Q_readNames_52 : decode prog_6_method_12_code 52 = .ok (.aload_n 3, 1) := by decide +kernel
theorem d_Q_readNames_53 : decode prog_6_method_12_code 53 = .ok (.invokevirtual 128, 3) := by decide +kernel
theorem d_Q_readNames_56 : decode prog_6_method_12_code 56 = .ok (.aload_n 0, 1) := by decide +kernel
theorem d_Q_readNames_57 : decode prog_6_method_12_code 57 = .ok (.invokevirtual 38, 3) := by decide +kernel
theorem d_Q_readNames_60 : decode prog_6_method_12_code 60 = .ok (.aload_n 0, 1) := by decide +kernel
theorem d_Q_readNames_61 : decode prog_6_method_12_code 61 = .ok (.getfield 45, 3) := by decide +kernel
theorem d_Q_readNames_64 : decode prog_6_method_12_code 64 = .ok (.bipush 44, 2) := by decide +kernel
theorem d_Q_readNames_66 : decode prog_6_method_12_code 66 = .ok (.if_icmp .eq 5, 3) := by decide +kernel
theorem d_Q_readNames_71 : decode prog_6_method_12_code 71 = .ok (.aload_n 0, 1) := by decide +kernel
theorem d_Q_readNames_72 : decode prog_6_method_12_code 72 = .ok (.invokevirtual 38, 3) := by decide +kernel
theorem d_Q_readNames_75 : decode prog_6_method_12_code 75 = .ok (.iinc 2 1, 3) := by decide +kernel
theorem d_Q_readNames_78 : decode prog_6_method_12_code 78 = .ok (.goto (-76), 3) := by decide +kernel
theorem d_Q_readNames_69 : decode prog_6_method_12_code 69 = .ok (.iconst 1, 1) := by decide +kernel
theorem d_Q_readNames_70 : decode prog_6_method_12_code 70 = .ok (.ireturn, 1) := by decide +kernel
theorem d_Q_readNames_41 : decode prog_6_method_12_code 41 = .ok (.aload_n 0, 1) := by decide +kernel
theorem d_Q_readNames_42 : decode prog_6_method_12_code 42 = .ok (.iconst 4, 1) := by decide +kernel
theorem d_Q_readNames_43 : decode prog_6_method_12_code 43 = .ok (.aload_n 0, 1) := by decide +kernel
theorem d_Q_readNames_44 : decode prog_6_method_12_code 44 = .ok (.getfield 48, 3) := by decide +kernel
theorem d_Q_readNames_47 : decode prog_6_method_12_code 47 = .ok (.invokevirtual 51, 3) := by decide +kernel
theorem d_Q_readNames_50 : decode prog_6_method_12_code 50 = .ok (.ireturn, 1) := by decide +kernel
theorem d_Q_readNames_18 : decode prog_6_method_12_code 18 = .ok (.aload_n 0, 1) := by decide +kernel
theorem d_Q_readNames_19 : decode prog_6_method_12_code 19 = .ok (.iconst 2, 1) := by decide +kernel
theorem d_Q_readNames_20 : decode prog_6_method_12_code 20 = .ok (.aload_n 0, 1) := by decide +kernel
theorem d_Q_readNames_21 : decode prog_6_method_12_code 21 = .ok (.getfield 48, 3) := by decide +kernel
theorem d_Q_readNames_24 : decode prog_6_method_12_code 24 = .ok (.invokevirtual 51, 3) := by decide +kernel
theorem d_Q_readNames_27 : decode prog_6_method_12_code 27 = .ok (.ireturn, 1) := by decide +kernel
theorem w1625 : Cond.methodLink "SeriesVault$Question" 87 ⟨"SeriesVault$Question", "tokenWord", "()LSeriesVault$Word;"⟩ ∈ aW := aw_of (tb_7 (List.mem_of_getElem? (i := 45) rfl)) rfl
theorem w1626 : Cond.code ⟨"SeriesVault$Question", "tokenWord", "()LSeriesVault$Word;"⟩ prog_6_method_15_code 1 (some (FieldType.object "SeriesVault$Word")) ∈ aW := aw_of (tb_7 (List.mem_of_getElem? (i := 48) rfl)) rfl
theorem w1627 : Cond.instanceMethod ⟨"SeriesVault$Question", "tokenWord", "()LSeriesVault$Word;"⟩ ∈ aW := aw_of (tb_7 (List.mem_of_getElem? (i := 47) rfl)) rfl
theorem w1628 : Cond.selects "SeriesVault$Question" ⟨"SeriesVault$Question", "tokenWord", "()LSeriesVault$Word;"⟩ ⟨"SeriesVault$Question", "tokenWord", "()LSeriesVault$Word;"⟩ ∈ aW := aw_pr (List.mem_map.mpr ⟨_, pv_3 (List.mem_of_getElem? (i := 14) rfl), rfl⟩) rfl
theorem w1629 : Cond.methodLink "SeriesVault$Question" 124 ⟨"SeriesVault$Step", "mayTakeName", "(LSeriesVault$Word;)Z"⟩ ∈ aW := aw_of (tb_7 (List.mem_of_getElem? (i := 97) rfl)) rfl
theorem w1630 : Cond.code ⟨"SeriesVault$Step", "mayTakeName", "(LSeriesVault$Word;)Z"⟩ prog_10_method_2_code 3 (some FieldType.boolean) ∈ aW := aw_of (tb_7 (List.mem_of_getElem? (i := 100) rfl)) rfl
theorem w1631 : Cond.instanceMethod ⟨"SeriesVault$Step", "mayTakeName", "(LSeriesVault$Word;)Z"⟩ ∈ aW := aw_of (tb_7 (List.mem_of_getElem? (i := 98) rfl)) rfl
theorem w1632 : Cond.selects "SeriesVault$Step" ⟨"SeriesVault$Step", "mayTakeName", "(LSeriesVault$Word;)Z"⟩ ⟨"SeriesVault$Step", "mayTakeName", "(LSeriesVault$Word;)Z"⟩ ∈ aW := aw_of (tb_7 (List.mem_of_getElem? (i := 99) rfl)) rfl
theorem w1633 : Cond.methodLink "SeriesVault$Question" 128 ⟨"SeriesVault$Step", "addName", "(LSeriesVault$Word;)V"⟩ ∈ aW := aw_of (tb_7 (List.mem_of_getElem? (i := 102) rfl)) rfl
theorem w1634 : Cond.code ⟨"SeriesVault$Step", "addName", "(LSeriesVault$Word;)V"⟩ prog_10_method_3_code 2 none ∈ aW := aw_of (tb_7 (List.mem_of_getElem? (i := 105) rfl)) rfl
theorem w1635 : Cond.instanceMethod ⟨"SeriesVault$Step", "addName", "(LSeriesVault$Word;)V"⟩ ∈ aW := aw_of (tb_7 (List.mem_of_getElem? (i := 103) rfl)) rfl
theorem w1636 : Cond.selects "SeriesVault$Step" ⟨"SeriesVault$Step", "addName", "(LSeriesVault$Word;)V"⟩ ⟨"SeriesVault$Step", "addName", "(LSeriesVault$Word;)V"⟩ ∈ aW := aw_of (tb_7 (List.mem_of_getElem? (i := 104) rfl)) rfl
set_option maxHeartbeats 4000000 in
set_option maxRecDepth 100000 in
theorem v_QreadNames (l : Launch) (D : va_G) (dA : Nat → ClassId) (sz : Nat) (h : Nat) (ad : Nat → Nat) (sp : Nat) (kd : Int32) (pl : Nat) (nu : Int64) (na : Nat) (ln : Nat) (lt : Nat) (mk : Nat) (x : VS) (hk : x.qok) : Met l ⟨"SeriesVault$Question", "readNames", "(LSeriesVault$Step;)Z"⟩ [Cond.code ⟨"SeriesVault$Question", "readNames", "(LSeriesVault$Step;)Z"⟩ prog_6_method_12_code 4 (some FieldType.boolean)] { frames := 6, cells := 2 * (rqP x.rnm.1 x.rnm.2.1 - x.qst), slots := 2 * (rqP x.rnm.1 x.rnm.2.1 - x.qst), locals := 129 } (pC D dA [.ref (ad 22), .ref sp] ([(sp, .inr (13, [.int kd, .int (nI pl), .long nu, .ref na, .int 0, .ref ln, .ref lt, .ref mk]))] ++ ([(na, .inl (dA 6, 6, .inr (.inr (.inr (.inr (fun _ => none))))))] ++ (VW dA h ad x))) sz) (va_Qi (fun (r9 : Int32) (u9 : VS × (Nat → Option Nat) × Nat) => r9 = bI x.rnm.1 ∧ x.qp u9.1 ∧ u9.1.qok ∧ u9.1.tk = x.rnm.2.1 ∧ u9.2.2 = x.rnm.2.2.1 ∧ nmOk dA u9.1.pl u9.2.1 u9.2.2 x.rnm.2.2.2) (fun (u9 : VS × (Nat → Option Nat) × Nat) t9 => bW D (va_A ([(sp, .inr (13, [.int kd, .int (nI pl), .long nu, .ref na, .int 0, .ref ln, .ref lt, .ref mk]))] ++ ([(na, .inl (dA 6, 6, .inr (.inr (.inr (.inr (fun _ => none))))))] ++ (VW dA h ad x))) sz) ([(sp, .inr (13, [.int kd, .int (nI pl), .long nu, .ref na, .int (nI u9.2.2), .ref ln, .ref lt, .ref mk]))] ++ ([(na, .inl (dA 6, 6, .inr (.inr (.inr (.inr u9.2.1)))))] ++ (VW dA h ad u9.1))) t9) (va_A ([(sp, .inr (13, [.int kd, .int (nI pl), .long nu, .ref na, .int 0, .ref ln, .ref lt, .ref mk]))] ++ ([(na, .inl (dA 6, 6, .inr (.inr (.inr (.inr (fun _ => none))))))] ++ (VW dA h ad x))) sz)) (2 * (rqP x.rnm.1 x.rnm.2.1 - x.qst)) (2 * (rqP x.rnm.1 x.rnm.2.1 - x.qst)) (va_A ([(sp, .inr (13, [.int kd, .int (nI pl), .long nu, .ref na, .int 0, .ref ln, .ref lt, .ref mk]))] ++ ([(na, .inl (dA 6, 6, .inr (.inr (.inr (.inr (fun _ => none))))))] ++ (VW dA h ad x))) sz) := by
  refine mkC (y := ⟨"SeriesVault$Question", "readNames", "(LSeriesVault$Step;)Z"⟩) (cc := prog_6_method_12_code) (maxL := 4) (av := [.ref (ad 22), .ref sp]) (ws := [(sp, .inr (13, [.int kd, .int (nI pl), .long nu, .ref na, .int 0, .ref ln, .ref lt, .ref mk]))] ++ ([(na, .inl (dA 6, 6, .inr (.inr (.inr (.inr (fun _ => none))))))] ++ (VW dA h ad x))) (sz := sz) (Qc := fun A => va_Qi (fun (r9 : Int32) (u9 : VS × (Nat → Option Nat) × Nat) => r9 = bI x.rnm.1 ∧ x.qp u9.1 ∧ u9.1.qok ∧ u9.1.tk = x.rnm.2.1 ∧ u9.2.2 = x.rnm.2.2.1 ∧ nmOk dA u9.1.pl u9.2.1 u9.2.2 x.rnm.2.2.2) (fun (u9 : VS × (Nat → Option Nat) × Nat) t9 => bW D A ([(sp, .inr (13, [.int kd, .int (nI pl), .long nu, .ref na, .int (nI u9.2.2), .ref ln, .ref lt, .ref mk]))] ++ ([(na, .inl (dA 6, 6, .inr (.inr (.inr (.inr u9.2.1)))))] ++ (VW dA h ad u9.1))) t9) A) (by decide) (Nat.le_of_ble_eq_true rfl) ?_
  intro A p e s m below meth c ls hsz hB
  obtain ⟨hx, hb, hr, hml, hown, hin, hlk, hE, hK, hP, hD, hS, hA, hN, hl⟩ := hB
  have hown : s.vm.findClass "SeriesVault$Question" = some m.cls := hown
  have hl : lv_has ls 4 [(0, .ref (ad 22)), (1, .ref sp)] := hl
  obtain ⟨H, hH⟩ : ∃ z, z = s.heap := ⟨_, rfl⟩
  have hP : va_P D vwCl ([(sp, .inr (13, [.int kd, .int (nI pl), .long nu, .ref na, .int 0, .ref ln, .ref lt, .ref mk]))] ++ ([(na, .inl (dA 6, 6, .inr (.inr (.inr (.inr (fun _ => none))))))] ++ (VW dA h ad x))) H := by rw [hH]; exact hP
  have hS : va_S A s.heap H [] := by rw [hH]; exact hS
  rw [← hH]
  have kb : x.qst ≤ x.qen ∧ x.qen ≤ x.qlen ∧ x.qlen ≤ x.tpN ∧ x.tpN ≤ 131072 ∧ x.qlen ≤ 16384 := ⟨hk.2.2.2.2.2.1, hk.2.2.2.2.2.2.1, hk.2.1, hk.2.2.1, hk.2.2.2.1⟩
  have kq : x.qtp = x.tpA := hk.1
  refine lv_iconst (v := 0) hx hb d_Q_readNames_0 (by decide) ?_
  refine lv_istore_n hx hb d_Q_readNames_1 rfl hl (by decide) rfl (fun ls hl => ?_)
  have hl : lv_has ls 4 [(2, .int 0), (0, .ref (ad 22)), (1, .ref sp)] := hl
  have L2 : ∀ (k9 : Nat) (i : Nat) (z : VS) (fn : Nat → Option Nat) (NL : Nat → List Int32) (i1 : i ≤ 6) (hkz : z.qok) (hqz : x.qp z) (hn : nmOk dA z.pl fn i NL) (er : rnG x.tape x.qlen (7 - i) z.tk i NL = x.rnm) (xs : x.qst ≤ z.qst) (hk9 : 7 - i = k9), ∀ (H : Heap) (locs : List Loc) (ls : Array Slot) (hP : va_P D vwCl ([(sp, .inr (13, [.int kd, .int (nI pl), .long nu, .ref na, .int (nI i), .ref ln, .ref lt, .ref mk]))] ++ ([(na, .inl (dA 6, 6, .inr (.inr (.inr (.inr fn)))))] ++ (VW dA h ad z))) H) (hD : va_D A ([(sp, .inr (13, [.int kd, .int (nI pl), .long nu, .ref na, .int (nI i), .ref ln, .ref lt, .ref mk]))] ++ ([(na, .inl (dA 6, 6, .inr (.inr (.inr (.inr fn)))))] ++ (VW dA h ad z)))) (hS : va_S A s.heap H locs) (hl : lv_has ls 4 [(2, .int (nI i)), (0, .ref (ad 22)), (1, .ref sp)]), W p l e ({ frames := 6, cells := 2 * (rqP x.rnm.1 x.rnm.2.1 - x.qst), slots := 2 * (rqP x.rnm.1 x.rnm.2.1 - x.qst), locals := 129 } : Room) s m ([.ref (ad 22), .ref sp] : List Value).toArray below meth c H locs (2 * (z.qst - x.qst)) (2 * (z.qst - x.qst)) (MQ below (va_Qi (fun (r9 : Int32) (u9 : VS × (Nat → Option Nat) × Nat) => r9 = bI x.rnm.1 ∧ x.qp u9.1 ∧ u9.1.qok ∧ u9.1.tk = x.rnm.2.1 ∧ u9.2.2 = x.rnm.2.2.1 ∧ nmOk dA u9.1.pl u9.2.1 u9.2.2 x.rnm.2.2.2) (fun (u9 : VS × (Nat → Option Nat) × Nat) t9 => bW D A ([(sp, .inr (13, [.int kd, .int (nI pl), .long nu, .ref na, .int (nI u9.2.2), .ref ln, .ref lt, .ref mk]))] ++ ([(na, .inl (dA 6, 6, .inr (.inr (.inr (.inr u9.2.1)))))] ++ (VW dA h ad u9.1))) t9) A) ([.ref (ad 22), .ref sp] : List Value).toArray s (2 * (rqP x.rnm.1 x.rnm.2.1 - x.qst)) (2 * (rqP x.rnm.1 x.rnm.2.1 - x.qst)) A) (F0 m 2 ls []) := by
    intro k9
    induction k9 using Nat.strongRecOn with
    | ind k9 ih2 =>
      intro i z fn NL i1 hkz hqz hn er xs hk9 H locs ls hP hD hS hl
      refine lv_iload_n hx hb d_Q_readNames_2 rfl (lv_at hl 0 rfl) ?_
      refine lv_bipush (v := 6) hx hb d_Q_readNames_3 (by decide) ?_
      refine lv_icmp_gt hx hb d_Q_readNames_5 (tgt := 81) rfl (fun g1 => ?_) (fun g1 => ?_)
      · have g1 := (nI_ltI (a := 6) (b := i) (by omega) (by omega)).mp g1; exfalso; omega
      have g1 := mt (nI_ltI (a := 6) (b := i) (by omega) (by omega)).mpr g1
      refine lv_aload_n hx hb d_Q_readNames_8 rfl (lv_at hl 1 rfl) ?_
      have kb_z : z.qst ≤ z.qen ∧ z.qen ≤ z.qlen ∧ z.qlen ≤ z.tpN ∧ z.tpN ≤ 131072 ∧ z.qlen ≤ 16384 := ⟨hkz.2.2.2.2.2.1, hkz.2.2.2.2.2.2.1, hkz.2.1, hkz.2.2.1, hkz.2.2.2.1⟩
      have kq_z : z.qtp = z.tpA := hkz.1
      have kf_z : z.tape = x.tape ∧ z.qlen = x.qlen := ⟨(qr_f (qp_qr hqz)).2.2.1, (qr_f (qp_qr hqz)).2.1⟩
      have p9 : z.qen ≤ rqP x.rnm.1 x.rnm.2.1 := by have e9 := (rn_P (f := x.tape) (w := 7 - i) (k := i) (NL := NL) (show tkok x.qlen z.tk by rw [← kf_z.2]; exact hkz.2.2.2.2.2)).1; rw [er] at e9; exact e9
      have p8 : ¬ z.qk = 256 → z.qst < z.qen := hkz.2.2.2.2.2.2.2.1
      refine gF (v := .int z.qk) hx hb hown hE hK hP 38 rfl rfl layQ 2 (by decide) w663 rfl d_Q_readNames_9 ?_
      refine lv_sipush (v := 258) hx hb d_Q_readNames_12 (by decide) ?_
      refine lv_icmp_eq hx hb d_Q_readNames_15 (tgt := 28) rfl (fun g2 => ?_) (fun g2 => ?_)
      · have g2 := g2
        refine lv_aload_n hx hb d_Q_readNames_28 rfl (lv_at hl 1 rfl) ?_
        have p7 : z.qst < z.qen := p8 (by rw [g2]; decide)
        have hPc : va_P D vwCl (VW dA h ad z) H := spP (wr := [(sp, .inr (13, [.int kd, .int (nI pl), .long nu, .ref na, .int (nI i), .ref ln, .ref lt, .ref mk]))] ++ ([(na, .inl (dA 6, 6, .inr (.inr (.inr (.inr fn)))))])) hP
        have hDc : va_D A (VW dA h ad z) := spD (wr := [(sp, .inr (13, [.int kd, .int (nI pl), .long nu, .ref na, .int (nI i), .ref ln, .ref lt, .ref mk]))] ++ ([(na, .inl (dA 6, 6, .inr (.inr (.inr (.inr fn)))))])) hD
        refine jkR (wr := [(sp, .inr (13, [.int kd, .int (nI pl), .long nu, .ref na, .int (nI i), .ref ln, .ref lt, .ref mk]))] ++ ([(na, .inl (dA 6, 6, .inr (.inr (.inr (.inr fn)))))])) (rnV (As := []) (rest := []) hx hb hml hown hE hK (hN _ _ hS) hPc hDc (v_QtokenWord l D dA H.size h ad z hkz) (q0 := 36) rfl rfl w1626 w1625 w1627 w1628 w665 rfl rfl ⟨⟨by decide, by decide⟩, rfl⟩ ⟨(Nat.le_of_ble_eq_true rfl), (Nat.le_of_ble_eq_true rfl)⟩ rfl hl.1 rfl (Nat.le_of_ble_eq_true rfl) d_Q_readNames_29 ⟨(show 2 * (z.qst - x.qst) + 2 ≤ 2 * (rqP x.rnm.1 x.rnm.2.1 - x.qst) by omega), (show 2 * (z.qst - x.qst) + (1 + (z.qen - z.qst)) ≤ 2 * (rqP x.rnm.1 x.rnm.2.1 - x.qst) by omega)⟩) hP hD hS hA (fun u3 wq H locs hp9 hP hD hS => ?_)
        obtain ⟨z1, h9u⟩ : ∃ z9, z9 = u3 := ⟨_, rfl⟩
        subst h9u
        have hP : va_P D vwCl ([(sp, .inr (13, [.int kd, .int (nI pl), .long nu, .ref na, .int (nI i), .ref ln, .ref lt, .ref mk]))] ++ ([(na, .inl (dA 6, 6, .inr (.inr (.inr (.inr fn)))))] ++ (VW dA h ad z1))) H := hP
        have hD : va_D A ([(sp, .inr (13, [.int kd, .int (nI pl), .long nu, .ref na, .int (nI i), .ref ln, .ref lt, .ref mk]))] ++ ([(na, .inl (dA 6, 6, .inr (.inr (.inr (.inr fn)))))] ++ (VW dA h ad z1))) := hD
        obtain ⟨f_k_4, f_w_5⟩ := hp9
        refine lv_astore_n hx hb d_Q_readNames_32 rfl hl (by decide) rfl (fun ls hl => ?_)
        have hl : lv_has ls 4 [(3, .ref wq), (2, .int (nI i)), (0, .ref (ad 22)), (1, .ref sp)] := hl
        refine lv_aload_n hx hb d_Q_readNames_33 rfl (lv_at hl 3 rfl) ?_
        refine lv_aload_n hx hb d_Q_readNames_34 rfl (lv_at hl 0 rfl) ?_
        obtain ⟨hk_z1, qq_z1, tk_z1⟩ := qok_pk hkz f_k_4
        have qp_z1 := qp_tr hqz qq_z1
        have tt_z1 : z1.tk = z.tk := by rw [tk_z1]
        have kb_z1 : z1.qst ≤ z1.qen ∧ z1.qen ≤ z1.qlen ∧ z1.qlen ≤ z1.tpN ∧ z1.tpN ≤ 131072 ∧ z1.qlen ≤ 16384 := ⟨hk_z1.2.2.2.2.2.1, hk_z1.2.2.2.2.2.2.1, hk_z1.2.1, hk_z1.2.2.1, hk_z1.2.2.2.1⟩
        have kq_z1 : z1.qtp = z1.tpA := hk_z1.1
        have kf_z1 : z1.tape = x.tape ∧ z1.qlen = x.qlen := ⟨(qr_f (qp_qr qp_z1)).2.2.1, (qr_f (qp_qr qp_z1)).2.1⟩
        have w9 : isWo dA z1.pl wq (tkw x.tape z.tk) := by rw [← kf_z.1]; exact f_w_5
        have l9 : (tkw x.tape z.tk).length ≤ 65536 := by unfold tkw; rw [seg_len]; show z.qen - z.qst ≤ 65536; omega
        have hn1 := nmOk_m qq_z1.2 hn
        refine jkI (wr := []) (rnV (As := [.ref wq]) (rest := []) hx hb hml hown hE hK (hN _ _ hS) hP hD (v_EmayTake l D dA H.size (VW dA h ad z1) sp kd pl nu na i ln lt mk fn wq NL (tkw x.tape z.tk) (nmOk_m (fun _ hm => (plm hm)) hn1) (show i ≤ 6 from by omega) (isWo_m (fun _ hm => (plm hm)) w9) l9) (q0 := 0) rfl rfl w1630 w1629 w1631 w1632 w1496 rfl rfl ⟨⟨by decide, by decide⟩, rfl⟩ ⟨(Nat.le_of_ble_eq_true rfl), (Nat.le_of_ble_eq_true rfl)⟩ rfl hl.1 rfl (Nat.le_of_ble_eq_true rfl) d_Q_readNames_35 ⟨(show 2 * (z.qst - x.qst) + 2 + 0 ≤ 2 * (rqP x.rnm.1 x.rnm.2.1 - x.qst) by omega), (show 2 * (z.qst - x.qst) + (1 + (z.qen - z.qst)) + 0 ≤ 2 * (rqP x.rnm.1 x.rnm.2.1 - x.qst) by omega)⟩) hP hD hS hA (fun r6 u7 H locs hp9 hP hD hS => ?_)
        have hP : va_P D vwCl ([(sp, .inr (13, [.int kd, .int (nI pl), .long nu, .ref na, .int (nI i), .ref ln, .ref lt, .ref mk]))] ++ ([(na, .inl (dA 6, 6, .inr (.inr (.inr (.inr fn)))))] ++ (VW dA h ad z1))) H := hP
        have hD : va_D A ([(sp, .inr (13, [.int kd, .int (nI pl), .long nu, .ref na, .int (nI i), .ref ln, .ref lt, .ref mk]))] ++ ([(na, .inl (dA 6, 6, .inr (.inr (.inr (.inr fn)))))] ++ (VW dA h ad z1))) := hD
        replace hp9 : bI (mtB NL i (tkw x.tape z.tk)) = r6 := Eq.symm hp9
        subst hp9
        refine lv_if_ne hx hb d_Q_readNames_38 (tgt := 51) rfl (fun g8 => ?_) (fun g8 => ?_)
        · have g8 := bI_n0 g8
          refine lv_aload_n hx hb d_Q_readNames_51 rfl (lv_at hl 3 rfl) ?_
          refine lv_aload_n hx hb d_Q_readNames_52 rfl (lv_at hl 0 rfl) ?_
          have i6 : i < 6 := by have e9 := g8; unfold mtB at e9; rw [Bool.and_eq_true] at e9; exact of_decide_eq_true e9.2
          have i6 : i < 6 := by have e9 := g8; unfold mtB at e9; rw [Bool.and_eq_true] at e9; exact of_decide_eq_true e9.2
          refine jkV (wr := []) (rnV (As := [.ref wq]) (rest := []) hx hb hml hown hE hK (hN _ _ hS) hP hD (v_EaddName l D dA H.size (VW dA h ad z1) sp kd pl nu na i ln lt mk fn wq (tkw x.tape z.tk) i6 (isWo_m (fun _ hm => (plm hm)) w9)) (q0 := 0) rfl rfl w1634 w1633 w1635 w1636 w1496 rfl rfl ⟨⟨by decide, by decide⟩, rfl⟩ ⟨(Nat.le_of_ble_eq_true rfl), (Nat.le_of_ble_eq_true rfl)⟩ rfl hl.1 rfl (Nat.le_of_ble_eq_true rfl) d_Q_readNames_53 ⟨(show 2 * (z.qst - x.qst) + 2 + 0 + 0 ≤ 2 * (rqP x.rnm.1 x.rnm.2.1 - x.qst) by omega), (show 2 * (z.qst - x.qst) + (1 + (z.qen - z.qst)) + 0 + 0 ≤ 2 * (rqP x.rnm.1 x.rnm.2.1 - x.qst) by omega)⟩) hP hD hS hA (fun u10 H locs hp9 hP hD hS => ?_)
          have hP : va_P D vwCl ([(sp, .inr (13, [.int kd, .int (nI pl), .long nu, .ref na, .int (nI (i + 1)), .ref ln, .ref lt, .ref mk]))] ++ ([(na, .inl (dA 6, 6, .inr (.inr (.inr (.inr (va_up fn i (some wq)))))))] ++ (VW dA h ad z1))) H := hP
          have hD : va_D A ([(sp, .inr (13, [.int kd, .int (nI pl), .long nu, .ref na, .int (nI (i + 1)), .ref ln, .ref lt, .ref mk]))] ++ ([(na, .inl (dA 6, 6, .inr (.inr (.inr (.inr (va_up fn i (some wq)))))))] ++ (VW dA h ad z1))) := hD
          refine lv_aload_n hx hb d_Q_readNames_56 rfl (lv_at hl 2 rfl) ?_
          have hPc : va_P D vwCl (VW dA h ad z1) H := spP (wr := [(sp, .inr (13, [.int kd, .int (nI pl), .long nu, .ref na, .int (nI (i + 1)), .ref ln, .ref lt, .ref mk]))] ++ ([(na, .inl (dA 6, 6, .inr (.inr (.inr (.inr (va_up fn i (some wq)))))))])) hP
          have hDc : va_D A (VW dA h ad z1) := spD (wr := [(sp, .inr (13, [.int kd, .int (nI pl), .long nu, .ref na, .int (nI (i + 1)), .ref ln, .ref lt, .ref mk]))] ++ ([(na, .inl (dA 6, 6, .inr (.inr (.inr (.inr (va_up fn i (some wq)))))))])) hD
          refine jkV (wr := [(sp, .inr (13, [.int kd, .int (nI pl), .long nu, .ref na, .int (nI (i + 1)), .ref ln, .ref lt, .ref mk]))] ++ ([(na, .inl (dA 6, 6, .inr (.inr (.inr (.inr (va_up fn i (some wq)))))))])) (rnV (As := []) (rest := []) hx hb hml hown hE hK (hN _ _ hS) hPc hDc (v_Qadvance l D dA H.size h ad z1 kq_z1 (show z1.qlen ≤ z1.tpN from by omega) (show z1.tpN ≤ 131072 from by omega) (show z1.qen ≤ z1.qlen from by omega)) (q0 := 36) rfl rfl w685 w684 w686 w687 w665 rfl rfl ⟨⟨by decide, by decide⟩, rfl⟩ ⟨(Nat.le_of_ble_eq_true rfl), (Nat.le_of_ble_eq_true rfl)⟩ rfl hl.1 rfl (Nat.le_of_ble_eq_true rfl) d_Q_readNames_57 ⟨(show 2 * (z.qst - x.qst) + 2 + 0 + 0 + 0 ≤ 2 * (rqP x.rnm.1 x.rnm.2.1 - x.qst) by omega), (show 2 * (z.qst - x.qst) + (1 + (z.qen - z.qst)) + 0 + 0 + 0 ≤ 2 * (rqP x.rnm.1 x.rnm.2.1 - x.qst) by omega)⟩) hP hD hS hA (fun u12 H locs hp9 hP hD hS => ?_)
          obtain ⟨z2, h9u⟩ : ∃ z9, z9 = u12 := ⟨_, rfl⟩
          subst h9u
          have hP : va_P D vwCl ([(sp, .inr (13, [.int kd, .int (nI pl), .long nu, .ref na, .int (nI (i + 1)), .ref ln, .ref lt, .ref mk]))] ++ ([(na, .inl (dA 6, 6, .inr (.inr (.inr (.inr (va_up fn i (some wq)))))))] ++ (VW dA h ad z2))) H := hP
          have hD : va_D A ([(sp, .inr (13, [.int kd, .int (nI pl), .long nu, .ref na, .int (nI (i + 1)), .ref ln, .ref lt, .ref mk]))] ++ ([(na, .inl (dA 6, 6, .inr (.inr (.inr (.inr (va_up fn i (some wq)))))))] ++ (VW dA h ad z2))) := hD
          have f_e_13 := hp9
          refine lv_aload_n hx hb d_Q_readNames_60 rfl (lv_at hl 2 rfl) ?_
          obtain ⟨hk_z2, qq_z2, tk_z2⟩ := qok_adv hk_z1 f_e_13
          have qp_z2 := qp_tr qp_z1 qq_z2
          have tt_z2 : z2.tk = nxT x.tape x.qlen z.tk := by rw [tk_z2, kf_z1.1, kf_z1.2, tt_z1]
          have kb_z2 : z2.qst ≤ z2.qen ∧ z2.qen ≤ z2.qlen ∧ z2.qlen ≤ z2.tpN ∧ z2.tpN ≤ 131072 ∧ z2.qlen ≤ 16384 := ⟨hk_z2.2.2.2.2.2.1, hk_z2.2.2.2.2.2.2.1, hk_z2.2.1, hk_z2.2.2.1, hk_z2.2.2.2.1⟩
          have kq_z2 : z2.qtp = z2.tpA := hk_z2.1
          have kf_z2 : z2.tape = x.tape ∧ z2.qlen = x.qlen := ⟨(qr_f (qp_qr qp_z2)).2.2.1, (qr_f (qp_qr qp_z2)).2.1⟩
          refine gF (v := .int z2.qk) hx hb hown hE hK hP 38 rfl rfl layQ 2 (by decide) w663 rfl d_Q_readNames_61 ?_
          refine lv_bipush (v := 44) hx hb d_Q_readNames_64 (by decide) ?_
          refine lv_icmp_eq hx hb d_Q_readNames_66 (tgt := 71) rfl (fun g14 => ?_) (fun g14 => ?_)
          · have g14 := g14
            refine lv_aload_n hx hb d_Q_readNames_71 rfl (lv_at hl 2 rfl) ?_
            have hPc : va_P D vwCl (VW dA h ad z2) H := spP (wr := [(sp, .inr (13, [.int kd, .int (nI pl), .long nu, .ref na, .int (nI (i + 1)), .ref ln, .ref lt, .ref mk]))] ++ ([(na, .inl (dA 6, 6, .inr (.inr (.inr (.inr (va_up fn i (some wq)))))))])) hP
            have hDc : va_D A (VW dA h ad z2) := spD (wr := [(sp, .inr (13, [.int kd, .int (nI pl), .long nu, .ref na, .int (nI (i + 1)), .ref ln, .ref lt, .ref mk]))] ++ ([(na, .inl (dA 6, 6, .inr (.inr (.inr (.inr (va_up fn i (some wq)))))))])) hD
            refine jkV (wr := [(sp, .inr (13, [.int kd, .int (nI pl), .long nu, .ref na, .int (nI (i + 1)), .ref ln, .ref lt, .ref mk]))] ++ ([(na, .inl (dA 6, 6, .inr (.inr (.inr (.inr (va_up fn i (some wq)))))))])) (rnV (As := []) (rest := []) hx hb hml hown hE hK (hN _ _ hS) hPc hDc (v_Qadvance l D dA H.size h ad z2 kq_z2 (show z2.qlen ≤ z2.tpN from by omega) (show z2.tpN ≤ 131072 from by omega) (show z2.qen ≤ z2.qlen from by omega)) (q0 := 36) rfl rfl w685 w684 w686 w687 w665 rfl rfl ⟨⟨by decide, by decide⟩, rfl⟩ ⟨(Nat.le_of_ble_eq_true rfl), (Nat.le_of_ble_eq_true rfl)⟩ rfl hl.1 rfl (Nat.le_of_ble_eq_true rfl) d_Q_readNames_72 ⟨(show 2 * (z.qst - x.qst) + 2 + 0 + 0 + 0 + 0 ≤ 2 * (rqP x.rnm.1 x.rnm.2.1 - x.qst) by omega), (show 2 * (z.qst - x.qst) + (1 + (z.qen - z.qst)) + 0 + 0 + 0 + 0 ≤ 2 * (rqP x.rnm.1 x.rnm.2.1 - x.qst) by omega)⟩) hP hD hS hA (fun u16 H locs hp9 hP hD hS => ?_)
            obtain ⟨z3, h9u⟩ : ∃ z9, z9 = u16 := ⟨_, rfl⟩
            subst h9u
            have hP : va_P D vwCl ([(sp, .inr (13, [.int kd, .int (nI pl), .long nu, .ref na, .int (nI (i + 1)), .ref ln, .ref lt, .ref mk]))] ++ ([(na, .inl (dA 6, 6, .inr (.inr (.inr (.inr (va_up fn i (some wq)))))))] ++ (VW dA h ad z3))) H := hP
            have hD : va_D A ([(sp, .inr (13, [.int kd, .int (nI pl), .long nu, .ref na, .int (nI (i + 1)), .ref ln, .ref lt, .ref mk]))] ++ ([(na, .inl (dA 6, 6, .inr (.inr (.inr (.inr (va_up fn i (some wq)))))))] ++ (VW dA h ad z3))) := hD
            have f_e_17 := hp9
            obtain ⟨hk_z3, qq_z3, tk_z3⟩ := qok_adv hk_z2 f_e_17
            have qp_z3 := qp_tr qp_z2 qq_z3
            have tt_z3 : z3.tk = nxT x.tape x.qlen (nxT x.tape x.qlen z.tk) := by rw [tk_z3, kf_z2.1, kf_z2.2, tt_z2]
            have kb_z3 : z3.qst ≤ z3.qen ∧ z3.qen ≤ z3.qlen ∧ z3.qlen ≤ z3.tpN ∧ z3.tpN ≤ 131072 ∧ z3.qlen ≤ 16384 := ⟨hk_z3.2.2.2.2.2.1, hk_z3.2.2.2.2.2.2.1, hk_z3.2.1, hk_z3.2.2.1, hk_z3.2.2.2.1⟩
            have kq_z3 : z3.qtp = z3.tpA := hk_z3.1
            have kf_z3 : z3.tape = x.tape ∧ z3.qlen = x.qlen := ⟨(qr_f (qp_qr qp_z3)).2.2.1, (qr_f (qp_qr qp_z3)).2.1⟩
            have c3 := (nx_ok (f := x.tape) (n := x.qlen) (t := nxT x.tape x.qlen z.tk) (by rw [← tt_z2, ← kf_z2.2]; exact hk_z2.2.2.2.2.2.2.1)).2
            have c4 := (nx_ok (f := x.tape) (n := x.qlen) (t := z.tk) (by rw [← kf_z.2]; exact hkz.2.2.2.2.2.2.1)).2
            rw [← tt_z3, ← tt_z2] at c3
            rw [← tt_z2] at c4
            have c5 : z2.qen ≤ z3.qst := c3
            have c6 : z.qen ≤ z2.qst := c4
            refine lv_iinc (k := 1) (v := nI (i + 1)) hx hb d_Q_readNames_75 hl rfl (iincN (i) 1 1 (by decide)) (by decide) rfl (fun ls hl => ?_)
            have hl : lv_has ls 4 [(2, .int (nI (i + 1))), (3, .ref wq), (0, .ref (ad 22)), (1, .ref sp)] := hl
            refine lv_goto hx hb d_Q_readNames_78 (tgt := 2) rfl ?_
            refine W.widen (k := 2 * (z3.qst - x.qst)) (n := 2 * (z3.qst - x.qst)) (show 2 * (z.qst - x.qst) + 2 + 0 + 0 + 0 + 0 ≤ 2 * (z3.qst - x.qst) from by omega) (show 2 * (z.qst - x.qst) + (1 + (z.qen - z.qst)) + 0 + 0 + 0 + 0 ≤ 2 * (z3.qst - x.qst) from by omega) ?_
            exact ih2 _ (by omega) (i + 1) z3 (va_up fn i (some wq)) (va_up NL i (tkw x.tape z.tk)) (by have e9 := g8; unfold mtB at e9; rw [Bool.and_eq_true] at e9; have := of_decide_eq_true e9.2; omega) hk_z3 qp_z3 (nmOk_m (fun c hc => qq_z3.2 c (qq_z2.2 c hc)) (nmOk_s hn1 w9 l9)) (by rw [← er, rn_4 (w := 7 - i) (by omega) g2 g8 (by rw [← tt_z2]; exact g14), ← tt_z3, show 7 - i - 1 = 7 - (i + 1) by omega]) (by omega) rfl H _ ls hP hD hS (lv_sub hl [0, 2, 3] rfl)
          · have g14 := g14
            refine lv_iconst (v := 1) hx hb d_Q_readNames_69 (by decide) ?_
            exact rfZ hx hb hr (bI_nar true) hlk hS (⟨z2, va_up fn i (some wq), i + 1⟩) (by have E := (er.symm.trans (rn_3 (by omega) g2 g8 (by rw [← tt_z2]; exact g14))); exact ⟨by rw [E]; rfl, qp_z2, hk_z2, by rw [E]; exact tt_z2, by have e9 := congrArg (fun q : RN => q.2.2.1) E; exact e9.symm, by rw [E]; exact nmOk_m qq_z2.2 (nmOk_s hn1 w9 l9)⟩) hP hD (show 2 * (z.qst - x.qst) + 2 + 0 + 0 + 0 ≤ 2 * (rqP x.rnm.1 x.rnm.2.1 - x.qst) by omega) (show 2 * (z.qst - x.qst) + (1 + (z.qen - z.qst)) + 0 + 0 + 0 ≤ 2 * (rqP x.rnm.1 x.rnm.2.1 - x.qst) by omega) d_Q_readNames_70
        · have g8 := bI_0 g8
          refine lv_aload_n hx hb d_Q_readNames_41 rfl (lv_at hl 2 rfl) ?_
          refine lv_iconst (v := 4) hx hb d_Q_readNames_42 (by decide) ?_
          refine lv_aload_n hx hb d_Q_readNames_43 rfl (lv_at hl 2 rfl) ?_
          refine gF (v := .int (nI z1.qst)) hx hb hown hE hK hP 38 rfl rfl layQ 3 (by decide) w662 rfl d_Q_readNames_44 ?_
          have hPc : va_P D vwCl (VW dA h ad z1) H := spP (wr := [(sp, .inr (13, [.int kd, .int (nI pl), .long nu, .ref na, .int (nI i), .ref ln, .ref lt, .ref mk]))] ++ ([(na, .inl (dA 6, 6, .inr (.inr (.inr (.inr fn)))))])) hP
          have hDc : va_D A (VW dA h ad z1) := spD (wr := [(sp, .inr (13, [.int kd, .int (nI pl), .long nu, .ref na, .int (nI i), .ref ln, .ref lt, .ref mk]))] ++ ([(na, .inl (dA 6, 6, .inr (.inr (.inr (.inr fn)))))])) hD
          refine jkI (wr := [(sp, .inr (13, [.int kd, .int (nI pl), .long nu, .ref na, .int (nI i), .ref ln, .ref lt, .ref mk]))] ++ ([(na, .inl (dA 6, 6, .inr (.inr (.inr (.inr fn)))))])) (rnV (As := [.int 4, .int (nI z1.qst)]) (rest := []) hx hb hml hown hE hK (hN _ _ hS) hPc hDc (v_Qrefuse l D dA H.size h ad z1 4 z1.qst) (q0 := 36) rfl rfl w666 w664 w667 w668 w665 rfl rfl ⟨⟨by decide, by decide⟩, rfl⟩ ⟨(Nat.le_of_ble_eq_true rfl), (Nat.le_of_ble_eq_true rfl)⟩ rfl hl.1 rfl (Nat.le_of_ble_eq_true rfl) d_Q_readNames_47 ⟨(show 2 * (z.qst - x.qst) + 2 + 0 + 0 ≤ 2 * (rqP x.rnm.1 x.rnm.2.1 - x.qst) by omega), (show 2 * (z.qst - x.qst) + (1 + (z.qen - z.qst)) + 0 + 0 ≤ 2 * (rqP x.rnm.1 x.rnm.2.1 - x.qst) by omega)⟩) hP hD hS hA (fun r18 u19 H locs hp9 hP hD hS => ?_)
          obtain ⟨y2, h9u⟩ : ∃ z9, z9 = u19 := ⟨_, rfl⟩
          subst h9u
          have hP : va_P D vwCl ([(sp, .inr (13, [.int kd, .int (nI pl), .long nu, .ref na, .int (nI i), .ref ln, .ref lt, .ref mk]))] ++ ([(na, .inl (dA 6, 6, .inr (.inr (.inr (.inr fn)))))] ++ (VW dA h ad y2))) H := hP
          have hD : va_D A ([(sp, .inr (13, [.int kd, .int (nI pl), .long nu, .ref na, .int (nI i), .ref ln, .ref lt, .ref mk]))] ++ ([(na, .inl (dA 6, 6, .inr (.inr (.inr (.inr fn)))))] ++ (VW dA h ad y2))) := hD
          obtain ⟨hp9, f_e_20⟩ := hp9
          replace hp9 : 0 = r18 := Eq.symm hp9
          subst hp9
          obtain ⟨hk_y2, qq_y2, tk_y2⟩ := qok_rfq hk_z1 f_e_20
          have qp_y2 := qp_tr qp_z1 qq_y2
          have tt_y2 : y2.tk = rfT z.tk 4 z.tk.2.1 := by rw [tk_y2, show z1.qst = z1.tk.2.1 from rfl, tt_z1]
          have kb_y2 : y2.qst ≤ y2.qen ∧ y2.qen ≤ y2.qlen ∧ y2.qlen ≤ y2.tpN ∧ y2.tpN ≤ 131072 ∧ y2.qlen ≤ 16384 := ⟨hk_y2.2.2.2.2.2.1, hk_y2.2.2.2.2.2.2.1, hk_y2.2.1, hk_y2.2.2.1, hk_y2.2.2.2.1⟩
          have kq_y2 : y2.qtp = y2.tpA := hk_y2.1
          have kf_y2 : y2.tape = x.tape ∧ y2.qlen = x.qlen := ⟨(qr_f (qp_qr qp_y2)).2.2.1, (qr_f (qp_qr qp_y2)).2.1⟩
          exact rfZ hx hb hr (bI_nar false) hlk hS (⟨y2, fn, i⟩) (by have E := (er.symm.trans (rn_2 (by omega) g2 g8)); exact ⟨by rw [E]; rfl, qp_y2, hk_y2, by rw [E]; exact tt_y2, by have e9 := congrArg (fun q : RN => q.2.2.1) E; exact e9.symm, by rw [E]; exact nmOk_m qq_y2.2 hn1⟩) hP hD (show 2 * (z.qst - x.qst) + 2 + 0 + 0 ≤ 2 * (rqP x.rnm.1 x.rnm.2.1 - x.qst) by omega) (show 2 * (z.qst - x.qst) + (1 + (z.qen - z.qst)) + 0 + 0 ≤ 2 * (rqP x.rnm.1 x.rnm.2.1 - x.qst) by omega) d_Q_readNames_50
      · have g2 := g2
        refine lv_aload_n hx hb d_Q_readNames_18 rfl (lv_at hl 1 rfl) ?_
        refine lv_iconst (v := 2) hx hb d_Q_readNames_19 (by decide) ?_
        refine lv_aload_n hx hb d_Q_readNames_20 rfl (lv_at hl 1 rfl) ?_
        refine gF (v := .int (nI z.qst)) hx hb hown hE hK hP 38 rfl rfl layQ 3 (by decide) w662 rfl d_Q_readNames_21 ?_
        have hPc : va_P D vwCl (VW dA h ad z) H := spP (wr := [(sp, .inr (13, [.int kd, .int (nI pl), .long nu, .ref na, .int (nI i), .ref ln, .ref lt, .ref mk]))] ++ ([(na, .inl (dA 6, 6, .inr (.inr (.inr (.inr fn)))))])) hP
        have hDc : va_D A (VW dA h ad z) := spD (wr := [(sp, .inr (13, [.int kd, .int (nI pl), .long nu, .ref na, .int (nI i), .ref ln, .ref lt, .ref mk]))] ++ ([(na, .inl (dA 6, 6, .inr (.inr (.inr (.inr fn)))))])) hD
        refine jkI (wr := [(sp, .inr (13, [.int kd, .int (nI pl), .long nu, .ref na, .int (nI i), .ref ln, .ref lt, .ref mk]))] ++ ([(na, .inl (dA 6, 6, .inr (.inr (.inr (.inr fn)))))])) (rnV (As := [.int 2, .int (nI z.qst)]) (rest := []) hx hb hml hown hE hK (hN _ _ hS) hPc hDc (v_Qrefuse l D dA H.size h ad z 2 z.qst) (q0 := 36) rfl rfl w666 w664 w667 w668 w665 rfl rfl ⟨⟨by decide, by decide⟩, rfl⟩ ⟨(Nat.le_of_ble_eq_true rfl), (Nat.le_of_ble_eq_true rfl)⟩ rfl hl.1 rfl (Nat.le_of_ble_eq_true rfl) d_Q_readNames_24 ⟨(show 2 * (z.qst - x.qst) + 0 ≤ 2 * (rqP x.rnm.1 x.rnm.2.1 - x.qst) by omega), (show 2 * (z.qst - x.qst) + 0 ≤ 2 * (rqP x.rnm.1 x.rnm.2.1 - x.qst) by omega)⟩) hP hD hS hA (fun r21 u22 H locs hp9 hP hD hS => ?_)
        obtain ⟨y1, h9u⟩ : ∃ z9, z9 = u22 := ⟨_, rfl⟩
        subst h9u
        have hP : va_P D vwCl ([(sp, .inr (13, [.int kd, .int (nI pl), .long nu, .ref na, .int (nI i), .ref ln, .ref lt, .ref mk]))] ++ ([(na, .inl (dA 6, 6, .inr (.inr (.inr (.inr fn)))))] ++ (VW dA h ad y1))) H := hP
        have hD : va_D A ([(sp, .inr (13, [.int kd, .int (nI pl), .long nu, .ref na, .int (nI i), .ref ln, .ref lt, .ref mk]))] ++ ([(na, .inl (dA 6, 6, .inr (.inr (.inr (.inr fn)))))] ++ (VW dA h ad y1))) := hD
        obtain ⟨hp9, f_e_23⟩ := hp9
        replace hp9 : 0 = r21 := Eq.symm hp9
        subst hp9
        obtain ⟨hk_y1, qq_y1, tk_y1⟩ := qok_rfq hkz f_e_23
        have qp_y1 := qp_tr hqz qq_y1
        have tt_y1 : y1.tk = rfT z.tk 2 z.tk.2.1 := by rw [tk_y1, show z.qst = z.tk.2.1 from rfl]
        have kb_y1 : y1.qst ≤ y1.qen ∧ y1.qen ≤ y1.qlen ∧ y1.qlen ≤ y1.tpN ∧ y1.tpN ≤ 131072 ∧ y1.qlen ≤ 16384 := ⟨hk_y1.2.2.2.2.2.1, hk_y1.2.2.2.2.2.2.1, hk_y1.2.1, hk_y1.2.2.1, hk_y1.2.2.2.1⟩
        have kq_y1 : y1.qtp = y1.tpA := hk_y1.1
        have kf_y1 : y1.tape = x.tape ∧ y1.qlen = x.qlen := ⟨(qr_f (qp_qr qp_y1)).2.2.1, (qr_f (qp_qr qp_y1)).2.1⟩
        exact rfZ hx hb hr (bI_nar false) hlk hS (⟨y1, fn, i⟩) (by have E := (er.symm.trans (rn_1 (by omega) g2)); exact ⟨by rw [E]; rfl, qp_y1, hk_y1, by rw [E]; exact tt_y1, by have e9 := congrArg (fun q : RN => q.2.2.1) E; exact e9.symm, by rw [E]; exact nmOk_m qq_y1.2 hn⟩) hP hD (show 2 * (z.qst - x.qst) + 0 ≤ 2 * (rqP x.rnm.1 x.rnm.2.1 - x.qst) by omega) (show 2 * (z.qst - x.qst) + 0 ≤ 2 * (rqP x.rnm.1 x.rnm.2.1 - x.qst) by omega) d_Q_readNames_27
  refine W.widen (k := 2 * (x.qst - x.qst)) (n := 2 * (x.qst - x.qst)) (show 0 ≤ 2 * (x.qst - x.qst) from by omega) (show 0 ≤ 2 * (x.qst - x.qst) from by omega) ?_
  exact L2 _ 0 x (fun _ => none) (fun _ => []) (Nat.zero_le _) hk (qp_rf x) (fun k hk => absurd hk (Nat.not_lt_zero k)) rfl (Nat.le_refl _) rfl H _ ls hP hD hS (lv_sub hl [0, 1, 2] rfl)
