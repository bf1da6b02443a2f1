/-! What a question's reading leaves as it was. -/
/-- only token and fault, and more that never changes -/
def VS.qp (x y : VS) : Prop := y = VS.s_pl (x.wt y.tk) y.pl ∧ ∀ c, c ∈ x.pl → c ∈ y.pl
/-- the lists too -/
def VS.qr (x y : VS) : Prop := y = VS.s_pl (VS.s_ll (x.wt y.tk) y.ll) y.pl ∧ ∀ c, c ∈ x.pl → c ∈ y.pl
theorem qp_rf (x : VS) : x.qp x := ⟨rfl, fun _ h => h⟩
theorem qr_rf (x : VS) : x.qr x := ⟨rfl, fun _ h => h⟩
theorem qp_tr {x y z : VS} (h1 : x.qp y) (h2 : y.qp z) : x.qp z :=
  ⟨h2.1.trans ((congrArg (fun w => VS.s_pl (VS.wt w z.tk) z.pl) h1.1).trans rfl), fun c hc => h2.2 c (h1.2 c hc)⟩
theorem qr_tr {x y z : VS} (h1 : x.qr y) (h2 : y.qr z) : x.qr z :=
  ⟨h2.1.trans ((congrArg (fun w => VS.s_pl (VS.s_ll (VS.wt w z.tk) z.ll) z.pl) h1.1).trans rfl), fun c hc => h2.2 c (h1.2 c hc)⟩
theorem qp_ll {x y : VS} (h : x.qp y) : y.ll = x.ll := (congrArg VS.ll h.1).trans rfl
theorem qp_qr {x y : VS} (h : x.qp y) : x.qr y := by
  refine ⟨?_, h.2⟩
  rw [qp_ll h]
  exact h.1.trans rfl
theorem qp_wt (x : VS) (t : TKQ) : x.qp (x.wt t) := ⟨rfl, fun _ h => h⟩
theorem qp_pk {x y : VS} (h : x.pk y) : x.qp y := ⟨h.1.trans (by have e : y.tk = x.tk := (congrArg VS.tk h.1).trans rfl; rw [e]; rfl), h.2⟩
theorem qr_ll (x : VS) (w : va_W) : x.qr (VS.s_ll x w) := ⟨rfl, fun _ h => h⟩
theorem qr_f {x y : VS} (h : x.qr y) : y.qtp = x.qtp ∧ y.qlen = x.qlen ∧ y.tape = x.tape ∧ y.tpA = x.tpA ∧ y.tpN = x.tpN :=
  ⟨(congrArg VS.qtp h.1).trans rfl, (congrArg VS.qlen h.1).trans rfl, (congrArg VS.tape h.1).trans rfl, (congrArg VS.tpA h.1).trans rfl, (congrArg VS.tpN h.1).trans rfl⟩
/-- a token on the tape: not empty but at the end, a text has its two marks -/
def tkok (n : Nat) (t : TKQ) : Prop := t.2.1 ≤ t.2.2.1 ∧ t.2.2.1 ≤ n ∧ (¬ t.1 = 256 → t.2.1 < t.2.2.1) ∧ (t.1 = 259 → t.2.1 + 2 ≤ t.2.2.1)
def VS.qok (x : VS) : Prop := x.qtp = x.tpA ∧ x.qlen ≤ x.tpN ∧ x.tpN ≤ 131072 ∧ x.qlen ≤ 16384 ∧ byteF x.tape ∧ tkok x.qlen x.tk
theorem rfT_ok {n : Nat} {t : TKQ} {k : Int32} {q : Nat} (h : tkok n t) : tkok n (rfT t k q) := by
  unfold rfT
  split
  · exact h
  · exact h
theorem rfT_e (t : TKQ) (k : Int32) (q : Nat) : (rfT t k q).1 = t.1 ∧ (rfT t k q).2.1 = t.2.1 ∧ (rfT t k q).2.2.1 = t.2.2.1 := by
  unfold rfT
  split
  · exact ⟨rfl, rfl, rfl⟩
  · exact ⟨rfl, rfl, rfl⟩
theorem sgV_k (z y : Int32) : ¬ (sgV z y).1 = 259 ∧ 1 ≤ (sgV z y).2 ∧ ((sgV z y).2 = 1 ∨ ((sgV z y).2 = 2 ∧ (y = 61 ∨ y = 94))) := by
  unfold sgV
  split
  · split
    · rename_i h
      exact ⟨by decide, by decide, Or.inr ⟨rfl, Or.inl h⟩⟩
    · split
      · rename_i h
        exact ⟨by decide, by decide, Or.inr ⟨rfl, Or.inr h⟩⟩
      · exact ⟨by decide, by decide, Or.inl rfl⟩
  · split
    · split
      · rename_i h
        exact ⟨by decide, by decide, Or.inr ⟨rfl, Or.inl h⟩⟩
      · exact ⟨by decide, by decide, Or.inl rfl⟩
    · split
      · rename_i h
        refine ⟨?_, Nat.le_refl 1, Or.inl rfl⟩
        show ¬ z = 259
        rcases h with h | h | h | h | h | h | h | h | h | h | h <;> subst h <;> decide
      · exact ⟨by decide, by decide, Or.inl rfl⟩
/-- a token that begins at d -/
theorem tkD_ok {f : Nat → Int32} {n d : Nat} {m : Int64} (h : d ≤ n) : (tkD f n m d).2.1 = d ∧ (tkD f n m d).2.2.1 ≤ n ∧ d ≤ (tkD f n m d).2.2.1 ∧ (¬ (tkD f n m d).1 = 256 → d < (tkD f n m d).2.2.1) ∧ ((tkD f n m d).1 = 259 → d + 2 ≤ (tkD f n m d).2.2.1) := by
  by_cases e : d = n
  · rw [tkD_e e]
    exact ⟨rfl, Nat.le_refl n, h, fun z => absurd rfl z, fun z => absurd z (show ¬ (256 : Int32) = 259 by decide)⟩
  · have hd : d < n := by omega
    cases h1 : isDg (f d) with
    | true =>
      have z := whE_in (P := isDg) (f := f) (n := n) (q := d + 1) (by omega)
      rw [← whE_t hd h1] at z
      rw [tkD_d (k := whE isDg f n d - d) e h1 (by omega)]
      refine ⟨rfl, ?_, ?_, fun _ => ?_, fun z => ?_⟩
      · show d + (whE isDg f n d - d) ≤ n
        omega
      · show d ≤ d + (whE isDg f n d - d)
        omega
      · show d < d + (whE isDg f n d - d)
        omega
      · exact absurd (show nuK f d (whE isDg f n d - d) = 259 from z) (by unfold nuK; split <;> decide)
    | false =>
      cases h2 : isNm (f d) with
      | true =>
        have z := whE_in (P := isNm) (f := f) (n := n) (q := d + 1) (by omega)
        rw [tkD_n e h1 h2]
        refine ⟨rfl, z.2, ?_, fun _ => z.1, fun z => absurd z (show ¬ (258 : Int32) = 259 by decide)⟩
        show d ≤ whE isNm f n (d + 1)
        omega
      | false =>
        by_cases h3 : f d = 34
        · rw [tkD_t e h1 h2 h3]
          have z := whE_in (P := isTv) (f := f) (n := n) (q := d + 1) (by omega)
          by_cases h4 : atV f n (whE isTv f n (d + 1)) = 34
          · rw [tvK_y h4, tvN_y h4]
            have z3 : whE isTv f n (d + 1) < n := by
              refine Nat.lt_of_not_le fun z9 => ?_
              rw [atV_f z9] at h4
              exact absurd h4 (by decide)
            refine ⟨rfl, z3, ?_, fun _ => ?_, fun _ => ?_⟩
            · show d ≤ whE isTv f n (d + 1) + 1
              omega
            · show d < whE isTv f n (d + 1) + 1
              omega
            · show d + 2 ≤ whE isTv f n (d + 1) + 1
              omega
          · rw [tvK_n h4, tvN_n h4]
            exact ⟨rfl, hd, Nat.le_succ d, fun _ => Nat.lt_succ_self d, fun z => absurd z (show ¬ (263 : Int32) = 259 by decide)⟩
        · rw [tkD_s e h1 h2 h3]
          obtain ⟨k1, k2, k3⟩ := sgV_k (f d) (atV f n (d + 1))
          have k4 : d + 1 + ((sgV (f d) (atV f n (d + 1))).2 - 1) ≤ n := by
            rcases k3 with k3 | ⟨k3, k5⟩
            · omega
            · have : d + 1 < n := by
                refine Nat.lt_of_not_le fun z9 => ?_
                rw [atV_f z9] at k5
                rcases k5 with k5 | k5 <;> exact absurd k5 (by decide)
              omega
          refine ⟨rfl, k4, ?_, fun _ => ?_, fun z => absurd z k1⟩
          · show d ≤ d + 1 + ((sgV (f d) (atV f n (d + 1))).2 - 1)
            omega
          · show d < d + 1 + ((sgV (f d) (atV f n (d + 1))).2 - 1)
            omega
theorem nx_ok {f : Nat → Int32} {n : Nat} {t : TKQ} (h : t.2.2.1 ≤ n) : tkok n (nxT f n t) ∧ t.2.2.1 ≤ (nxT f n t).2.1 := by
  have z := whE_in (P := isSp) (f := f) (n := n) (q := t.2.2.1) h
  obtain ⟨k1, k2, k3, k4, k5⟩ := tkD_ok (f := f) (m := t.2.2.2.1) z.2
  unfold nxT adX
  split
  · have e := rfT_e (mkT (tkD f n t.2.2.2.1 (whE isSp f n t.2.2.1)) t) 1 (tkD f n t.2.2.2.1 (whE isSp f n t.2.2.1)).2.1
    refine ⟨rfT_ok ⟨?_, k2, fun q => ?_, fun q => ?_⟩, ?_⟩
    · show (tkD f n t.2.2.2.1 (whE isSp f n t.2.2.1)).2.1 ≤ _
      rw [k1]; exact k3
    · show (tkD f n t.2.2.2.1 (whE isSp f n t.2.2.1)).2.1 < _
      rw [k1]; exact k4 q
    · show (tkD f n t.2.2.2.1 (whE isSp f n t.2.2.1)).2.1 + 2 ≤ _
      rw [k1]; exact k5 q
    · rw [e.2.1]
      show _ ≤ (tkD f n t.2.2.2.1 (whE isSp f n t.2.2.1)).2.1
      rw [k1]; exact z.1
  · refine ⟨⟨?_, k2, fun q => ?_, fun q => ?_⟩, ?_⟩
    · show (tkD f n t.2.2.2.1 (whE isSp f n t.2.2.1)).2.1 ≤ _
      rw [k1]; exact k3
    · show (tkD f n t.2.2.2.1 (whE isSp f n t.2.2.1)).2.1 < _
      rw [k1]; exact k4 q
    · show (tkD f n t.2.2.2.1 (whE isSp f n t.2.2.1)).2.1 + 2 ≤ _
      rw [k1]; exact k5 q
    · show _ ≤ (tkD f n t.2.2.2.1 (whE isSp f n t.2.2.1)).2.1
      rw [k1]; exact z.1
theorem qok_r {x y : VS} (h : x.qok) (hr : x.qr y) (ht : tkok x.qlen y.tk) : y.qok := by
  obtain ⟨k1, k2, k3, k4, k5, -⟩ := h
  obtain ⟨e1, e2, e3, e4, e5⟩ := qr_f hr
  refine ⟨by rw [e1, e4]; exact k1, by rw [e2, e5]; exact k2, by rw [e5]; exact k3, by rw [e2]; exact k4, by rw [e3]; exact k5, by rw [e2]; exact ht⟩
/-- a token read by the class -/
theorem qok_adv {x y : VS} (h : x.qok) (e : y = x.adv) : y.qok ∧ x.qp y ∧ y.tk = nxT x.tape x.qlen x.tk := by
  subst e
  have z : x.adv.tk = nxT x.tape x.qlen x.tk := rfl
  have q : x.qp x.adv := qp_wt x _
  refine ⟨qok_r h (qp_qr q) ?_, q, z⟩
  rw [z]
  exact (nx_ok h.2.2.2.2.2.2.1).1
theorem qok_rfq {x y : VS} {k : Int32} {q : Nat} (h : x.qok) (e : y = x.rfq k q) : y.qok ∧ x.qp y ∧ y.tk = rfT x.tk k q := by
  rw [rfq_e] at e
  subst e
  have z : (x.wt (rfT x.tk k q)).tk = rfT x.tk k q := rfl
  have w : x.qp (x.wt (rfT x.tk k q)) := qp_wt x _
  refine ⟨qok_r h (qp_qr w) ?_, w, z⟩
  rw [z]
  exact rfT_ok h.2.2.2.2.2
/-- a token taken -/
def tkT (f : Nat → Int32) (n : Nat) (t : TKQ) (k : Int32) : Bool × TKQ := if t.1 = k then (true, nxT f n t) else (false, rfT t 2 t.2.1)
theorem qok_take {x y : VS} {k : Int32} (h : x.qok) (e : y = if x.qk = k then x.adv else x.rfq 2 x.qst) : y.qok ∧ x.qp y ∧ y.tk = (tkT x.tape x.qlen x.tk k).2 := by
  unfold tkT
  by_cases hk : x.qk = k
  · rw [if_pos hk] at e
    rw [if_pos (show x.tk.1 = k from hk)]
    exact qok_adv h e
  · rw [if_neg hk] at e
    rw [if_neg (show ¬ x.tk.1 = k from hk)]
    exact qok_rfq h e
theorem qok_pk {x y : VS} (h : x.qok) (e : x.pk y) : y.qok ∧ x.qp y ∧ y.tk = x.tk := by
  have z : y.tk = x.tk := (congrArg VS.tk e.1).trans rfl
  refine ⟨qok_r h (qp_qr (qp_pk e)) ?_, qp_pk e, z⟩
  rw [z]
  exact h.2.2.2.2.2
theorem d_Q_tokenWord_0 : decode prog_6_method_15_code 0 = .ok (.new 98, 3) := by decide +kernel
theorem d_Q_tokenWord_3 : decode prog_6_method_15_code 3 = .ok (.dup, 1) := by decide +kernel
theorem d_Q_tokenWord_4 : decode prog_6_method_15_code 4 = .ok (.aload_n 0, 1) := by decide +kernel
theorem d_Q_tokenWord_5 : decode prog_6_method_15_code 5 = .ok (.getfield 9, 3) := by decide +kernel
theorem d_Q_tokenWord_8 : decode prog_6_method_15_code 8 = .ok (.aload_n 0, 1) := by decide +kernel
theorem d_Q_tokenWord_9 : decode prog_6_method_15_code 9 = .ok (.getfield 48, 3) := by decide +kernel
theorem d_Q_tokenWord_12 : decode prog_6_method_15_code 12 = .ok (.aload_n 0, 1) := by decide +kernel
theorem d_Q_tokenWord_13 : decode prog_6_method_15_code 13 = .ok (.getfield 32, 3) := by decide +kernel
theorem d_Q_tokenWord_16 : decode prog_6_method_15_code 16 = .ok (.invokespecial 135, 3) := by decide +kernel
theorem d_Q_tokenWord_19 : decode prog_6_method_15_code 19 = .ok (.areturn, 1) := by decide +kernel
theorem w1623 : Cond.classLink "SeriesVault$Question" 98 "SeriesVault$Word" ∈ aW := aw_of (tb_7 (List.mem_of_getElem? (i := 49) rfl)) rfl
theorem w1624 : Cond.methodLink "SeriesVault$Question" 135 ⟨"SeriesVault$Word", "<init>", "([BII)V"⟩ ∈ aW := aw_of (tb_7 (List.mem_of_getElem? (i := 50) rfl)) rfl
set_option maxHeartbeats 4000000 in
set_option maxRecDepth 100000 in
theorem v_QtokenWord (l : Launch) (D : va_G) (dA : Nat → ClassId) (sz : Nat) (h : Nat) (ad : Nat → Nat) (x : VS) (hk : x.qok) : Met l ⟨"SeriesVault$Question", "tokenWord", "()LSeriesVault$Word;"⟩ [Cond.code ⟨"SeriesVault$Question", "tokenWord", "()LSeriesVault$Word;"⟩ prog_6_method_15_code 1 (some (FieldType.object "SeriesVault$Word"))] { frames := 5, cells := 2, slots := 1 + (x.qen - x.qst), locals := 109 } (pC D dA [.ref (ad 22)] (VW dA h ad x) sz) (va_Qr (fun (_ : VS) => True) (fun (u9 : VS) (r9 : Nat) t9 => (x.pk u9 ∧ isWo dA u9.pl r9 (seg x.tape x.qst x.qen)) ∧ bW D (va_A (VW dA h ad x) sz) (VW dA h ad u9) t9) (va_A (VW dA h ad x) sz)) 2 (1 + (x.qen - x.qst)) (va_A (VW dA h ad x) sz) := by
  refine mkC (y := ⟨"SeriesVault$Question", "tokenWord", "()LSeriesVault$Word;"⟩) (cc := prog_6_method_15_code) (maxL := 1) (av := [.ref (ad 22)]) (ws := VW dA h ad x) (sz := sz) (Qc := fun A => va_Qr (fun (_ : VS) => True) (fun (u9 : VS) (r9 : Nat) t9 => (x.pk u9 ∧ isWo dA u9.pl r9 (seg x.tape x.qst x.qen)) ∧ bW D A (VW dA h ad u9) t9) A) (by decide) (Nat.le_of_ble_eq_true rfl) ?_
  intro A p e s m below meth c ls hsz hB
  obtain ⟨hx, hb, hr, hml, hown, hin, hlk, hE, hK, hP, hD, hS, hA, hN, hl⟩ := hB
  have hown : s.vm.findClass "SeriesVault$Question" = some m.cls := hown
  have hl : lv_has ls 1 [(0, .ref (ad 22))] := hl
  obtain ⟨H, hH⟩ : ∃ z, z = s.heap := ⟨_, rfl⟩
  have hP : va_P D vwCl (VW dA h ad x) H := by rw [hH]; exact hP
  have hS : va_S A s.heap H [] := by rw [hH]; exact hS
  rw [← hH]
  have kb : x.qst ≤ x.qen ∧ x.qen ≤ x.qlen ∧ x.qlen ≤ x.tpN ∧ x.tpN ≤ 131072 ∧ x.qlen ≤ 16384 := ⟨hk.2.2.2.2.2.1, hk.2.2.2.2.2.2.1, hk.2.1, hk.2.2.1, hk.2.2.2.1⟩
  have kq : x.qtp = x.tpA := hk.1
  refine nOf hx hb hown hE hK hP hD hS hA (ci := 10) rfl layW tyW tokW w1623 w856 w1281 (fs := [.null]) dfW (show 0 + 1 ≤ 2 by omega) (show 0 + 1 ≤ 1 + (x.qen - x.qst) by omega) d_Q_tokenWord_0 (fun pp H hP hD hS => ?_)
  have hP : va_P D vwCl ([(pp, .inr (10, [.null]))] ++ (VW dA h ad x)) H := hP
  have hD : va_D A ([(pp, .inr (10, [.null]))] ++ (VW dA h ad x)) := hD
  refine lv_dup hx hb d_Q_tokenWord_3 rfl ?_
  refine lv_aload_n hx hb d_Q_tokenWord_4 rfl (lv_at hl 0 rfl) ?_
  refine gF (v := .ref x.qtp) hx hb hown hE hK hP 37 rfl rfl layQ 0 (by decide) w677 rfl d_Q_tokenWord_5 ?_
  rw [kq]
  refine lv_aload_n hx hb d_Q_tokenWord_8 rfl (lv_at hl 0 rfl) ?_
  refine gF (v := .int (nI x.qst)) hx hb hown hE hK hP 37 rfl rfl layQ 3 (by decide) w662 rfl d_Q_tokenWord_9 ?_
  refine lv_aload_n hx hb d_Q_tokenWord_12 rfl (lv_at hl 0 rfl) ?_
  refine gF (v := .int (nI x.qen)) hx hb hown hE hK hP 37 rfl rfl layQ 4 (by decide) w660 rfl d_Q_tokenWord_13 ?_
  refine jkV (wr := []) (rnI (As := [.ref x.tpA, .int (nI x.qst), .int (nI x.qen)]) (rest := [.ref pp]) hx hb hml hown hE hK (hN _ _ hS) hP hD (v_Winit l D dA H.size (VW dA h ad x) pp x.tpA x.tpN x.tape x.qst x.qen (List.mem_of_getElem? (i := 1) rfl) hk.2.2.2.2.1 (show x.qst ≤ x.qen from by omega) (show x.qen ≤ x.tpN from by omega) (show x.tpN ≤ 131072 from by omega)) w1308 w1624 w1309 w1281 rfl rfl rfl ⟨⟨by decide, by decide⟩, rfl⟩ ⟨(Nat.le_of_ble_eq_true rfl), (Nat.le_of_ble_eq_true rfl)⟩ rfl hl.1 rfl (Nat.le_of_ble_eq_true rfl) d_Q_tokenWord_16 ⟨(show 0 + 1 + 1 ≤ 2 by omega), (show 0 + 1 + (x.qen - x.qst) ≤ 1 + (x.qen - x.qst) by omega)⟩) hP hD hS hA (fun u2 H locs hp9 hP hD hS => ?_)
  obtain ⟨bq, g1⟩ := u2
  have hP : va_P D vwCl ([(bq, .inl (dA 0, x.qen - x.qst, .inl g1))] ++ ([(pp, .inr (10, [.ref bq]))] ++ (VW dA h ad x))) H := hP
  have hD : va_D A ([(bq, .inl (dA 0, x.qen - x.qst, .inl g1))] ++ ([(pp, .inr (10, [.ref bq]))] ++ (VW dA h ad x))) := hD
  obtain ⟨f_y_3, f_hg_4⟩ := hp9
  have hP : va_P D vwCl (VW dA h ad (VS.s_pl x (x.pl ++ ([(bq, .inl (dA 0, x.qen - x.qst, .inl g1))] ++ ([(pp, .inr (10, [.ref bq]))]))))) H := pmP (show List.Perm (α := Nat × va_E) ([(bq, .inl (dA 0, x.qen - x.qst, .inl g1))] ++ ([(pp, .inr (10, [.ref bq]))] ++ (VW dA h ad x))) (VW dA h ad (VS.s_pl x (x.pl ++ ([(bq, .inl (dA 0, x.qen - x.qst, .inl g1))] ++ ([(pp, .inr (10, [.ref bq]))]))))) from plP2 (dA := dA) (h := h) (ad := ad) x ([(bq, .inl (dA 0, x.qen - x.qst, .inl g1))]) ([(pp, .inr (10, [.ref bq]))])) hP
  have hD : va_D A (VW dA h ad (VS.s_pl x (x.pl ++ ([(bq, .inl (dA 0, x.qen - x.qst, .inl g1))] ++ ([(pp, .inr (10, [.ref bq]))]))))) := pmD (show List.Perm (α := Nat × va_E) ([(bq, .inl (dA 0, x.qen - x.qst, .inl g1))] ++ ([(pp, .inr (10, [.ref bq]))] ++ (VW dA h ad x))) (VW dA h ad (VS.s_pl x (x.pl ++ ([(bq, .inl (dA 0, x.qen - x.qst, .inl g1))] ++ ([(pp, .inr (10, [.ref bq]))]))))) from plP2 (dA := dA) (h := h) (ad := ad) x ([(bq, .inl (dA 0, x.qen - x.qst, .inl g1))]) ([(pp, .inr (10, [.ref bq]))])) hD
  obtain ⟨pl5, e_pl5⟩ : ∃ z, z = x.pl ++ ([(bq, .inl (dA 0, x.qen - x.qst, .inl g1))] ++ ([(pp, .inr (10, [.ref bq]))])) := ⟨_, rfl⟩
  rw [← e_pl5] at hP hD
  have s_pl5 : ∀ c, c ∈ x.pl → c ∈ pl5 := by rw [e_pl5]; exact fun _ hm => List.mem_append_left _ hm
  have t_pl5_0 : ((bq, .inl (dA 0, x.qen - x.qst, .inl g1)) : Nat × va_E) ∈ pl5 := by rw [e_pl5]; exact List.mem_append_right _ (List.mem_of_getElem? (i := 0) rfl)
  have t_pl5_1 : ((pp, .inr (10, [.ref bq])) : Nat × va_E) ∈ pl5 := by rw [e_pl5]; exact List.mem_append_right _ (List.mem_of_getElem? (i := 1) rfl)
  have hP : va_P D vwCl (VW dA h ad (VS.s_pl x pl5)) H := hP
  have hD : va_D A (VW dA h ad (VS.s_pl x pl5)) := hD
  exact rkR hx hb hr (Or.inl ⟨_, rfl⟩) hlk hS (VS.s_pl x pl5) ⟨⟨rfl, s_pl5⟩, isWo_n t_pl5_1 t_pl5_0 f_y_3 (seg_len _ _ _) (fun k hk => (f_hg_4 k hk).trans (seg_get _ hk).symm)⟩ hP hD (show 0 + 1 + 1 ≤ 2 by omega) (show 0 + 1 + (x.qen - x.qst) ≤ 1 + (x.qen - x.qst) by omega) d_Q_tokenWord_19
