/-! A question read. -/
theorem qok_adv0 {x y : VS} (h1 : x.qtp = x.tpA) (h2 : x.qlen ≤ x.tpN) (h3 : x.tpN ≤ 131072) (h4 : x.qlen ≤ 16384) (h5 : byteF x.tape) (h6 : x.qen ≤ x.qlen) (e : y = x.adv) : y.qok ∧ x.qp y ∧ y.tk = nxT x.tape x.qlen x.tk := by
  subst e
  have z : x.adv.tk = nxT x.tape x.qlen x.tk := rfl
  have q : x.qp x.adv := qp_wt x _
  obtain ⟨e1, e2, e3, e4, e5⟩ := qr_f (qp_qr q)
  refine ⟨⟨by rw [e1, e4]; exact h1, by rw [e2, e5]; exact h2, by rw [e5]; exact h3, by rw [e2]; exact h4, by rw [e3]; exact h5, ?_⟩, q, z⟩
  rw [z, e2]
  exact (nx_ok (t := x.tk) h6).1
theorem stL_c {e0 : Nat} {pl : va_W} {g : LI} {mc : Int32} (h : stL e0 pl g) : stL e0 pl (LI.s_el (LI.s_mc (LI.s_sz g 0) mc) (clF g.el g.sz)) := by
  obtain ⟨⟨k1, k2, k3⟩, k4⟩ := h
  refine ⟨⟨fun z => ⟨(k1 z).1, rfl⟩, Nat.zero_le _, k3⟩, fun i hi y hy => ?_⟩
  have hy : (if i < g.sz then none else g.el i) = some y := hy
  split at hy
  · cases hy
  · exact k4 i hi y hy
/-- behind the sum the end -/
def qRd (e : PR) : PR := if e.1 = true then (if e.2.1.1 = 256 then e else (false, rfT e.2.1 2 e.2.1.2.1, e.2.2)) else e
theorem qRd_f {e : PR} (h : e.1 = false) : qRd e = e := if_neg (by rw [h]; decide)
theorem qRd_t {e : PR} (h : e.1 = true) (h2 : e.2.1.1 = 256) : qRd e = e := (if_pos h).trans (if_pos h2)
theorem qRd_n {e : PR} (h : e.1 = true) (h2 : ¬ e.2.1.1 = 256) : qRd e = (false, rfT e.2.1 2 e.2.1.2.1, e.2.2) := (if_pos h).trans (if_neg h2)
/-- the class as it begins to read n bytes -/
def VS.r0 (x : VS) (n : Nat) : VS := VS.s_qen (VS.s_qpl (VS.s_qcode (VS.s_qlen (VS.s_qtp x x.tpA) n) 0) 0) 0
/-- its first token -/
def VS.t0 (x : VS) (n : Nat) : TKQ := nxT x.tape n (x.qk, x.qst, 0, x.qnum, 0, 0)
theorem d_Q_read_44 : decode prog_6_method_2_code 44 = .ok (.aload_n 0, 1) := by decide +kernel
theorem d_Q_read_45 : decode prog_6_method_2_code 45 = .ok (.getfield 45, 3) := by decide +kernel
theorem d_Q_read_48 : decode prog_6_method_2_code 48 = .ok (.sipush 256, 3) := by decide +kernel
theorem d_Q_read_51 : decode prog_6_method_2_code 51 = .ok (.if_icmp .eq 15, 3) := by decide +kernel
theorem d_Q_read_66 : decode prog_6_method_2_code 66 = .ok (.iconst 1, 1) := by decide +kernel
theorem d_Q_read_67 : decode prog_6_method_2_code 67 = .ok (.goto 4, 3) := by decide +kernel
theorem d_Q_read_54 : decode prog_6_method_2_code 54 = .ok (.aload_n 0, 1) := by decide +kernel
theorem d_Q_read_55 : decode prog_6_method_2_code 55 = .ok (.iconst 2, 1) := by decide +kernel
theorem d_Q_read_56 : decode prog_6_method_2_code 56 = .ok (.aload_n 0, 1) := by decide +kernel
theorem d_Q_read_57 : decode prog_6_method_2_code 57 = .ok (.getfield 48, 3) := by decide +kernel
theorem d_Q_read_60 : decode prog_6_method_2_code 60 = .ok (.invokevirtual 51, 3) := by decide +kernel
theorem d_Q_read_63 : decode prog_6_method_2_code 63 = .ok (.ifCond .eq 7, 3) := by decide +kernel
set_option maxHeartbeats 4000000 in
set_option maxRecDepth 100000 in
theorem v_Qread (l : Launch) (D : va_G) (dA : Nat → ClassId) (sz : Nat) (e0 mi : Nat) (kA vA : Nat → Nat) (fm : Nat) (h : Nat) (ad : Nat → Nat) (sa : Nat) (g : LI) (r : va_W) (x : VS) (n : Nat) (hsa : sa = ad 23) (hll : x.ll = LqW dA sa g ++ r) (hst : stL e0 x.pl g) (hn : n ≤ 16384) (h2 : n ≤ x.tpN) (h3 : x.tpN ≤ 131072) (hby : byteF x.tape) : Met l ⟨"SeriesVault$Question", "read", "([BI)Z"⟩ [Cond.code ⟨"SeriesVault$Question", "read", "([BI)Z"⟩ prog_6_method_2_code 3 (some FieldType.boolean)] { frames := 273, cells := 8 * n, slots := 64 * n + 4 * (cpR g.eN 0 (pQ x.tape n (x.t0 n)).2.2.length - g.eN), locals := 6648 } (pCs D dA e0 mi kA vA fm [.ref (ad 22), .ref x.tpA, .int (nI n)] (VW dA h ad x) sz) (va_Qi (fun (r9 : Int32) (u9 : VS × LI × VS) => r9 = bI (qRd (pQ x.tape n (x.t0 n))).1 ∧ (x.r0 n).qr u9.1 ∧ VS.pq dA e0 sa r u9.2.2 (LI.s_el (LI.s_mc (LI.s_sz g 0) (g.mc + 1)) (clF g.el g.sz)) (qRd (pQ x.tape n (x.t0 n))) u9.1 u9.2.1) (fun (u9 : VS × LI × VS) t9 => bW D (va_A (VW dA h ad x) sz) (VW dA h ad u9.1) t9) (va_A (VW dA h ad x) sz)) (8 * n) (64 * n + 4 * (cpR g.eN 0 (pQ x.tape n (x.t0 n)).2.2.length - g.eN)) (va_A (VW dA h ad x) sz) := by
  refine mkS (y := ⟨"SeriesVault$Question", "read", "([BI)Z"⟩) (cc := prog_6_method_2_code) (maxL := 3) (av := [.ref (ad 22), .ref x.tpA, .int (nI n)]) (ws := VW dA h ad x) (sz := sz) (Qc := fun A => va_Qi (fun (r9 : Int32) (u9 : VS × LI × VS) => r9 = bI (qRd (pQ x.tape n (x.t0 n))).1 ∧ (x.r0 n).qr u9.1 ∧ VS.pq dA e0 sa r u9.2.2 (LI.s_el (LI.s_mc (LI.s_sz g 0) (g.mc + 1)) (clF g.el g.sz)) (qRd (pQ x.tape n (x.t0 n))) u9.1 u9.2.1) (fun (u9 : VS × LI × VS) t9 => bW D A (VW dA h ad u9.1) t9) A) (by decide) (Nat.le_of_ble_eq_true rfl) ?_
  intro A p e s m below meth c ls hsz hZ hT hM hQ hB
  obtain ⟨hx, hb, hr, hml, hown, hin, hlk, hE, hK, hP, hD, hS, hA, hN, hl⟩ := hB
  have hown : s.vm.findClass "SeriesVault$Question" = some m.cls := hown
  have hl : lv_has ls 3 [(0, .ref (ad 22)), (1, .ref x.tpA), (2, .int (nI n))] := hl
  obtain ⟨H, hH⟩ : ∃ z, z = s.heap := ⟨_, rfl⟩
  have hP : va_P D vwCl (VW dA h ad x) H := by rw [hH]; exact hP
  have hS : va_S A s.heap H [] := by rw [hH]; exact hS
  rw [← hH]
  refine lv_aload_n hx hb d_Q_read_0 rfl (lv_at hl 0 rfl) ?_
  refine lv_aload_n hx hb d_Q_read_1 rfl (lv_at hl 1 rfl) ?_
  refine pF (v := .ref x.tpA) hx hb hown hE hK hP hD hS 36 rfl rfl layQ tyQ tokQ nmQ 0 (by decide) w677 rfl rfl rfl (Nat.le_of_ble_eq_true rfl) d_Q_read_2 (fun H locs hP hD hS => ?_)
  have hP : va_P D vwCl (VW dA h ad (VS.s_qtp x x.tpA)) H := hP
  have hD : va_D A (VW dA h ad (VS.s_qtp x x.tpA)) := hD
  refine lv_aload_n hx hb d_Q_read_5 rfl (lv_at hl 0 rfl) ?_
  refine lv_iload_n hx hb d_Q_read_6 rfl (lv_at hl 2 rfl) ?_
  refine pF (v := .int (nI n)) hx hb hown hE hK hP hD hS 36 rfl rfl layQ tyQ tokQ nmQ 1 (by decide) w661 rfl rfl rfl (Nat.le_of_ble_eq_true rfl) d_Q_read_7 (fun H locs hP hD hS => ?_)
  have hP : va_P D vwCl (VW dA h ad (VS.s_qlen (VS.s_qtp x x.tpA) n)) H := hP
  have hD : va_D A (VW dA h ad (VS.s_qlen (VS.s_qtp x x.tpA) n)) := hD
  refine lv_aload_n hx hb d_Q_read_10 rfl (lv_at hl 0 rfl) ?_
  refine lv_iconst (v := 0) hx hb d_Q_read_11 (by decide) ?_
  refine pF (v := .int 0) hx hb hown hE hK hP hD hS 36 rfl rfl layQ tyQ tokQ nmQ 6 (by decide) w658 rfl rfl rfl (Nat.le_of_ble_eq_true rfl) d_Q_read_12 (fun H locs hP hD hS => ?_)
  have hP : va_P D vwCl (VW dA h ad (VS.s_qcode (VS.s_qlen (VS.s_qtp x x.tpA) n) 0)) H := hP
  have hD : va_D A (VW dA h ad (VS.s_qcode (VS.s_qlen (VS.s_qtp x x.tpA) n) 0)) := hD
  refine lv_aload_n hx hb d_Q_read_15 rfl (lv_at hl 0 rfl) ?_
  refine lv_iconst (v := 0) hx hb d_Q_read_16 (by decide) ?_
  refine pF (v := .int 0) hx hb hown hE hK hP hD hS 36 rfl rfl layQ tyQ tokQ nmQ 7 (by decide) w659 rfl rfl rfl (Nat.le_of_ble_eq_true rfl) d_Q_read_17 (fun H locs hP hD hS => ?_)
  have hP : va_P D vwCl (VW dA h ad (VS.s_qpl (VS.s_qcode (VS.s_qlen (VS.s_qtp x x.tpA) n) 0) 0)) H := hP
  have hD : va_D A (VW dA h ad (VS.s_qpl (VS.s_qcode (VS.s_qlen (VS.s_qtp x x.tpA) n) 0) 0)) := hD
  refine lv_aload_n hx hb d_Q_read_20 rfl (lv_at hl 0 rfl) ?_
  refine lv_iconst (v := 0) hx hb d_Q_read_21 (by decide) ?_
  refine pF (v := .int (nI 0)) hx hb hown hE hK hP hD hS 36 rfl rfl layQ tyQ tokQ nmQ 4 (by decide) w660 rfl rfl rfl (Nat.le_of_ble_eq_true rfl) d_Q_read_22 (fun H locs hP hD hS => ?_)
  have hP : va_P D vwCl (VW dA h ad (VS.s_qpl (VS.s_qcode (VS.s_qen (VS.s_qlen (VS.s_qtp x x.tpA) n) 0) 0) 0)) H := hP
  have hD : va_D A (VW dA h ad (VS.s_qpl (VS.s_qcode (VS.s_qen (VS.s_qlen (VS.s_qtp x x.tpA) n) 0) 0) 0)) := hD
  refine lv_aload_n hx hb d_Q_read_25 rfl (lv_at hl 0 rfl) ?_
  refine gF (v := .ref (ad 23)) hx hb hown hE hK hP 36 rfl rfl layQ 8 (by decide) w678 rfl d_Q_read_26 ?_
  rw [← hsa]
  obtain ⟨y0, e_y0⟩ : ∃ w9, w9 = VS.s_qpl (VS.s_qcode (VS.s_qen (VS.s_qlen (VS.s_qtp x x.tpA) n) 0) 0) 0 := ⟨_, rfl⟩
  rw [← e_y0] at hP hD
  have hP : va_P D vwCl (VW dA h ad y0) H := hP
  have hD : va_D A (VW dA h ad y0) := hD
  have e0r : y0 = x.r0 n := e_y0
  have hl0 : y0.ll = LqW dA sa g ++ r := by rw [e0r]; exact hll
  have hP := pmP (show List.Perm (α := Nat × va_E) (VW dA h ad y0) (LqW dA sa g ++ (VW dA h ad (VS.s_ll y0 r))) from llP (dA := dA) (h := h) (ad := ad) (x := y0) (L := LqW dA sa g) (r := r) hl0) hP
  have hD := pmD (show List.Perm (α := Nat × va_E) (VW dA h ad y0) (LqW dA sa g ++ (VW dA h ad (VS.s_ll y0 r))) from llP (dA := dA) (h := h) (ad := ad) (x := y0) (L := LqW dA sa g) (r := r) hl0) hD
  have hP : va_P D vwCl (LqW dA sa g ++ (VW dA h ad (VS.s_ll y0 r))) H := hP
  have hD : va_D A (LqW dA sa g ++ (VW dA h ad (VS.s_ll y0 r))) := hD
  refine jkV (wr := []) (rnVy (As := []) (rest := []) hx hb hml hown hE hK hZ hT hM hS (hN _ _ hS) hP hD (v_LclearQ l D dA H.size e0 mi (VW dA h ad (VS.s_ll y0 r)) sa g hst.1) (q0 := 0) rfl rfl w681 w679 w682 w683 w680 rfl rfl ⟨⟨by decide, by decide⟩, rfl⟩ ⟨(Nat.le_of_ble_eq_true rfl), (Nat.le_of_ble_eq_true rfl)⟩ rfl hl.1 rfl (Nat.le_of_ble_eq_true rfl) d_Q_read_29 ⟨(show 0 + 0 ≤ 8 * n by omega), (show 0 + 0 ≤ 64 * n + 4 * (cpR g.eN 0 (pQ x.tape n (x.t0 n)).2.2.length - g.eN) by omega)⟩) hP hD hS hA (fun u2 H locs hp9 hP hD hS => ?_)
  have hP : va_P D vwCl (LqW dA sa (LI.s_el (LI.s_mc (LI.s_sz g 0) (g.mc + 1)) (clF g.el g.sz)) ++ (VW dA h ad (VS.s_ll y0 r))) H := hP
  have hD : va_D A (LqW dA sa (LI.s_el (LI.s_mc (LI.s_sz g 0) (g.mc + 1)) (clF g.el g.sz)) ++ (VW dA h ad (VS.s_ll y0 r))) := hD
  refine lv_aload_n hx hb d_Q_read_32 rfl (lv_at hl 0 rfl) ?_
  have hP := pmP (show List.Perm (α := Nat × va_E) (LqW dA sa (LI.s_el (LI.s_mc (LI.s_sz g 0) (g.mc + 1)) (clF g.el g.sz)) ++ (VW dA h ad (VS.s_ll y0 r))) (VW dA h ad (VS.s_ll y0 (LqW dA sa (LI.s_el (LI.s_mc (LI.s_sz g 0) (g.mc + 1)) (clF g.el g.sz)) ++ r))) from (llP (dA := dA) (h := h) (ad := ad) (x := (VS.s_ll y0 (LqW dA sa (LI.s_el (LI.s_mc (LI.s_sz g 0) (g.mc + 1)) (clF g.el g.sz)) ++ r))) (L := LqW dA sa (LI.s_el (LI.s_mc (LI.s_sz g 0) (g.mc + 1)) (clF g.el g.sz))) (r := r) rfl).symm) hP
  have hD := pmD (show List.Perm (α := Nat × va_E) (LqW dA sa (LI.s_el (LI.s_mc (LI.s_sz g 0) (g.mc + 1)) (clF g.el g.sz)) ++ (VW dA h ad (VS.s_ll y0 r))) (VW dA h ad (VS.s_ll y0 (LqW dA sa (LI.s_el (LI.s_mc (LI.s_sz g 0) (g.mc + 1)) (clF g.el g.sz)) ++ r))) from (llP (dA := dA) (h := h) (ad := ad) (x := (VS.s_ll y0 (LqW dA sa (LI.s_el (LI.s_mc (LI.s_sz g 0) (g.mc + 1)) (clF g.el g.sz)) ++ r))) (L := LqW dA sa (LI.s_el (LI.s_mc (LI.s_sz g 0) (g.mc + 1)) (clF g.el g.sz))) (r := r) rfl).symm) hD
  have hP : va_P D vwCl (VW dA h ad (VS.s_ll y0 (LqW dA sa (LI.s_el (LI.s_mc (LI.s_sz g 0) (g.mc + 1)) (clF g.el g.sz)) ++ r))) H := hP
  have hD : va_D A (VW dA h ad (VS.s_ll y0 (LqW dA sa (LI.s_el (LI.s_mc (LI.s_sz g 0) (g.mc + 1)) (clF g.el g.sz)) ++ r))) := hD
  obtain ⟨y1, e_y1⟩ : ∃ w9, w9 = VS.s_ll y0 (LqW dA sa (LI.s_el (LI.s_mc (LI.s_sz g 0) (g.mc + 1)) (clF g.el g.sz)) ++ r) := ⟨_, rfl⟩
  rw [← e_y1] at hP hD
  have hP : va_P D vwCl (VW dA h ad y1) H := hP
  have hD : va_D A (VW dA h ad y1) := hD
  have q01 : (x.r0 n).qr y1 := by rw [e_y1, e0r]; exact qr_ll _ _
  have hl1 : y1.ll = LqW dA sa (LI.s_el (LI.s_mc (LI.s_sz g 0) (g.mc + 1)) (clF g.el g.sz)) ++ r := by rw [e_y1]
  have f1 : y1.qtp = y1.tpA ∧ y1.qlen = n ∧ y1.tpN = x.tpN ∧ y1.tape = x.tape ∧ y1.qen = 0 := by rw [e_y1, e0r]; exact ⟨rfl, rfl, rfl, rfl, rfl⟩
  obtain ⟨f11, f12, f13, f14, f15⟩ := f1
  have ep1 : y1.pl = x.pl := by rw [e_y1, e0r]; rfl
  have tk1 : y1.tk = (x.qk, x.qst, 0, x.qnum, 0, 0) := by rw [e_y1, e0r]; rfl
  refine jkV (wr := []) (rnV (As := []) (rest := []) hx hb hml hown hE hK (hN _ _ hS) hP hD (v_Qadvance l D dA H.size h ad y1 f11 (show y1.qlen ≤ y1.tpN from by omega) (show y1.tpN ≤ 131072 from by omega) (show y1.qen ≤ y1.qlen from by omega)) (q0 := 36) rfl rfl w685 w684 w686 w687 w665 rfl rfl ⟨⟨by decide, by decide⟩, rfl⟩ ⟨(Nat.le_of_ble_eq_true rfl), (Nat.le_of_ble_eq_true rfl)⟩ rfl hl.1 rfl (Nat.le_of_ble_eq_true rfl) d_Q_read_33 ⟨(show 0 + 0 + 0 ≤ 8 * n by omega), (show 0 + 0 + 0 ≤ 64 * n + 4 * (cpR g.eN 0 (pQ x.tape n (x.t0 n)).2.2.length - g.eN) by omega)⟩) hP hD hS hA (fun u4 H locs hp9 hP hD hS => ?_)
  obtain ⟨y2, h9u⟩ : ∃ z9, z9 = u4 := ⟨_, rfl⟩
  subst h9u
  have hP : va_P D vwCl (VW dA h ad y2) H := hP
  have hD : va_D A (VW dA h ad y2) := hD
  have f_e_5 := hp9
  refine lv_aload_n hx hb d_Q_read_36 rfl (lv_at hl 0 rfl) ?_
  refine lv_iconst (v := 0) hx hb d_Q_read_37 (by decide) ?_
  obtain ⟨hk2, qq2, tk2⟩ := qok_adv0 f11 (by omega) (by omega) (by omega) (by rw [f14]; exact hby) (by omega) f_e_5
  have kf2 : y2.tape = x.tape ∧ y2.qlen = n := ⟨((qr_f (qp_qr qq2)).2.2.1).trans f14, ((qr_f (qp_qr qq2)).2.1).trans f12⟩
  have tt2 : y2.tk = x.t0 n := by rw [tk2, f14, f12, tk1]; rfl
  have w2 : VS.pw dA e0 sa r y2 (LI.s_el (LI.s_mc (LI.s_sz g 0) (g.mc + 1)) (clF g.el g.sz)) := ⟨hk2, (qp_ll qq2).trans hl1, stL_m qq2.2 (by rw [ep1]; exact stL_c hst), Nat.zero_le _⟩
  have eR : pQ y2.tape y2.qlen y2.tk = pQ x.tape n (x.t0 n) := by rw [kf2.1, kf2.2, tt2]
  have sx2 : y2.qst = (x.t0 n).2.1 := congrArg (fun q : TKQ => q.2.1) tt2
  have gq0 := pQ_g x.tape n (x.t0 n) (by have e9 := hk2.2.2.2.2.2; rw [kf2.2, tt2] at e9; exact e9)
  have rl := (rqP_st (b := (pQ x.tape n (x.t0 n)).1) gq0.1).2
  have rl2 := gq0.1.2.1
  have rY : rqP (pQ y2.tape y2.qlen y2.tk).1 (pQ y2.tape y2.qlen y2.tk).2.1 = rqP (pQ x.tape n (x.t0 n)).1 (pQ x.tape n (x.t0 n)).2.1 := by rw [eR]
  have eG : LI.eN (LI.s_el (LI.s_mc (LI.s_sz g 0) (g.mc + 1)) (clF g.el g.sz)) = g.eN := rfl
  have cY : cpR (LI.eN (LI.s_el (LI.s_mc (LI.s_sz g 0) (g.mc + 1)) (clF g.el g.sz))) (LI.sz (LI.s_el (LI.s_mc (LI.s_sz g 0) (g.mc + 1)) (clF g.el g.sz))) (pQ y2.tape y2.qlen y2.tk).2.2.length = cpR g.eN 0 (pQ x.tape n (x.t0 n)).2.2.length := by rw [eR]
  refine jkI (wr := []) (rnVs (As := [.int 0]) (rest := []) hx hb hml hown hE hK hZ hT hM hQ hS (hN _ _ hS) hP hD (v_ExpC0 l D dA H.size e0 mi kA vA fm h ad sa (LI.s_el (LI.s_mc (LI.s_sz g 0) (g.mc + 1)) (clF g.el g.sz)) r y2 hsa w2) (q0 := 36) rfl rfl w689 w688 w690 w691 w665 rfl rfl ⟨⟨by decide, by decide⟩, rfl⟩ ⟨(Nat.le_of_ble_eq_true rfl), (Nat.le_of_ble_eq_true rfl)⟩ rfl hl.1 rfl (Nat.le_of_ble_eq_true rfl) d_Q_read_38 ⟨(show 0 + 0 + 0 + (8 * (rqP (pQ y2.tape y2.qlen y2.tk).1 (pQ y2.tape y2.qlen y2.tk).2.1 - y2.qst)) ≤ 8 * n by omega), (show 0 + 0 + 0 + (64 * (rqP (pQ y2.tape y2.qlen y2.tk).1 (pQ y2.tape y2.qlen y2.tk).2.1 - y2.qst) + 4 * (cpR (LI.s_el (LI.s_mc (LI.s_sz g 0) (g.mc + 1)) (clF g.el g.sz)).eN (LI.s_el (LI.s_mc (LI.s_sz g 0) (g.mc + 1)) (clF g.el g.sz)).sz (pQ y2.tape y2.qlen y2.tk).2.2.length - (LI.s_el (LI.s_mc (LI.s_sz g 0) (g.mc + 1)) (clF g.el g.sz)).eN)) ≤ 64 * n + 4 * (cpR g.eN 0 (pQ x.tape n (x.t0 n)).2.2.length - g.eN) by omega)⟩) hP hD hS hA (fun r6 u7 H locs hp9 hP hD hS => ?_)
  obtain ⟨y3, gy3⟩ := u7
  have hP : va_P D vwCl (VW dA h ad y3) H := hP
  have hD : va_D A (VW dA h ad y3) := hD
  obtain ⟨hp9, f_p_8⟩ := hp9
  replace hp9 : bI (pQ y2.tape y2.qlen y2.tk).1 = r6 := Eq.symm hp9
  subst hp9
  have hp3 := f_p_8
  rw [eR] at hp3
  have q03 : (x.r0 n).qr y3 := qr_tr q01 (qr_tr (qp_qr qq2) hp3.1)
  have kb_y3 : y3.qst ≤ y3.qen ∧ y3.qen ≤ y3.qlen ∧ y3.qlen ≤ y3.tpN ∧ y3.tpN ≤ 131072 ∧ y3.qlen ≤ 16384 := ⟨hp3.2.2.1.1.2.2.2.2.2.1, hp3.2.2.1.1.2.2.2.2.2.2.1, hp3.2.2.1.1.2.1, hp3.2.2.1.1.2.2.1, hp3.2.2.1.1.2.2.2.1⟩
  have kq_y3 : y3.qtp = y3.tpA := hp3.2.2.1.1.1
  refine lv_if_eq hx hb d_Q_read_41 (tgt := 70) rfl (fun g9 => ?_) (fun g9 => ?_)
  · have g9 := bI_0 g9
    refine lv_iconst (v := 0) hx hb d_Q_read_70 (by decide) ?_
    exact rfZ hx hb hr (bI_nar false) hlk hS (⟨y3, gy3, y1⟩) (by have E : qRd (pQ x.tape n (x.t0 n)) = pQ x.tape n (x.t0 n) := qRd_f (by rw [← eR]; exact g9); exact ⟨by rw [E, ← eR, g9]; rfl, q03, by rw [E]; exact pq_pre (qp_qr qq2) hp3⟩) hP hD (show 0 + 0 + 0 + (8 * (rqP (pQ y2.tape y2.qlen y2.tk).1 (pQ y2.tape y2.qlen y2.tk).2.1 - y2.qst)) ≤ 8 * n by omega) (show 0 + 0 + 0 + (64 * (rqP (pQ y2.tape y2.qlen y2.tk).1 (pQ y2.tape y2.qlen y2.tk).2.1 - y2.qst) + 4 * (cpR (LI.s_el (LI.s_mc (LI.s_sz g 0) (g.mc + 1)) (clF g.el g.sz)).eN (LI.s_el (LI.s_mc (LI.s_sz g 0) (g.mc + 1)) (clF g.el g.sz)).sz (pQ y2.tape y2.qlen y2.tk).2.2.length - (LI.s_el (LI.s_mc (LI.s_sz g 0) (g.mc + 1)) (clF g.el g.sz)).eN)) ≤ 64 * n + 4 * (cpR g.eN 0 (pQ x.tape n (x.t0 n)).2.2.length - g.eN) by omega) d_Q_read_71
  · have g9 := bI_n0 g9
    refine lv_aload_n hx hb d_Q_read_44 rfl (lv_at hl 0 rfl) ?_
    refine gF (v := .int y3.qk) hx hb hown hE hK hP 36 rfl rfl layQ 2 (by decide) w663 rfl d_Q_read_45 ?_
    refine lv_sipush (v := 256) hx hb d_Q_read_48 (by decide) ?_
    refine lv_icmp_eq hx hb d_Q_read_51 (tgt := 66) rfl (fun g10 => ?_) (fun g10 => ?_)
    · have g10 := g10
      refine lv_iconst (v := 1) hx hb d_Q_read_66 (by decide) ?_
      refine lv_goto hx hb d_Q_read_67 (tgt := 71) rfl ?_
      exact rfZ hx hb hr (bI_nar true) hlk hS (⟨y3, gy3, y1⟩) (by have E := qRd_t (show (pQ x.tape n (x.t0 n)).1 = true by rw [← eR]; exact g9) (by rw [← hp3.2.1]; exact g10); exact ⟨by rw [E]; show _ = bI (pQ x.tape n (x.t0 n)).1; rw [(show (pQ x.tape n (x.t0 n)).1 = true by rw [← eR]; exact g9)]; rfl, q03, by rw [E]; exact pq_pre (qp_qr qq2) hp3⟩) hP hD (show 0 + 0 + 0 + (8 * (rqP (pQ y2.tape y2.qlen y2.tk).1 (pQ y2.tape y2.qlen y2.tk).2.1 - y2.qst)) ≤ 8 * n by omega) (show 0 + 0 + 0 + (64 * (rqP (pQ y2.tape y2.qlen y2.tk).1 (pQ y2.tape y2.qlen y2.tk).2.1 - y2.qst) + 4 * (cpR (LI.s_el (LI.s_mc (LI.s_sz g 0) (g.mc + 1)) (clF g.el g.sz)).eN (LI.s_el (LI.s_mc (LI.s_sz g 0) (g.mc + 1)) (clF g.el g.sz)).sz (pQ y2.tape y2.qlen y2.tk).2.2.length - (LI.s_el (LI.s_mc (LI.s_sz g 0) (g.mc + 1)) (clF g.el g.sz)).eN)) ≤ 64 * n + 4 * (cpR g.eN 0 (pQ x.tape n (x.t0 n)).2.2.length - g.eN) by omega) d_Q_read_71
    · have g10 := g10
      refine lv_aload_n hx hb d_Q_read_54 rfl (lv_at hl 0 rfl) ?_
      refine lv_iconst (v := 2) hx hb d_Q_read_55 (by decide) ?_
      refine lv_aload_n hx hb d_Q_read_56 rfl (lv_at hl 0 rfl) ?_
      refine gF (v := .int (nI y3.qst)) hx hb hown hE hK hP 36 rfl rfl layQ 3 (by decide) w662 rfl d_Q_read_57 ?_
      refine jkI (wr := []) (rnV (As := [.int 2, .int (nI y3.qst)]) (rest := []) hx hb hml hown hE hK (hN _ _ hS) hP hD (v_Qrefuse l D dA H.size h ad y3 2 y3.qst) (q0 := 36) rfl rfl w666 w664 w667 w668 w665 rfl rfl ⟨⟨by decide, by decide⟩, rfl⟩ ⟨(Nat.le_of_ble_eq_true rfl), (Nat.le_of_ble_eq_true rfl)⟩ rfl hl.1 rfl (Nat.le_of_ble_eq_true rfl) d_Q_read_60 ⟨(show 0 + 0 + 0 + (8 * (rqP (pQ y2.tape y2.qlen y2.tk).1 (pQ y2.tape y2.qlen y2.tk).2.1 - y2.qst)) + 0 ≤ 8 * n by omega), (show 0 + 0 + 0 + (64 * (rqP (pQ y2.tape y2.qlen y2.tk).1 (pQ y2.tape y2.qlen y2.tk).2.1 - y2.qst) + 4 * (cpR (LI.s_el (LI.s_mc (LI.s_sz g 0) (g.mc + 1)) (clF g.el g.sz)).eN (LI.s_el (LI.s_mc (LI.s_sz g 0) (g.mc + 1)) (clF g.el g.sz)).sz (pQ y2.tape y2.qlen y2.tk).2.2.length - (LI.s_el (LI.s_mc (LI.s_sz g 0) (g.mc + 1)) (clF g.el g.sz)).eN)) + 0 ≤ 64 * n + 4 * (cpR g.eN 0 (pQ x.tape n (x.t0 n)).2.2.length - g.eN) by omega)⟩) hP hD hS hA (fun r11 u12 H locs hp9 hP hD hS => ?_)
      obtain ⟨y4, h9u⟩ : ∃ z9, z9 = u12 := ⟨_, rfl⟩
      subst h9u
      have hP : va_P D vwCl (VW dA h ad y4) H := hP
      have hD : va_D A (VW dA h ad y4) := hD
      obtain ⟨hp9, f_e_13⟩ := hp9
      replace hp9 : 0 = r11 := Eq.symm hp9
      subst hp9
      obtain ⟨hk4, qq4, tk4⟩ := qok_rfq hp3.2.2.1.1 f_e_13
      refine lv_if_eq hx hb d_Q_read_63 (tgt := 70) rfl (fun _ => ?_) (fun h9 => absurd (by decide) h9)
      refine lv_iconst (v := 0) hx hb d_Q_read_70 (by decide) ?_
      exact rfZ hx hb hr (bI_nar false) hlk hS (⟨y4, gy3, y1⟩) (by have E := qRd_n (show (pQ x.tape n (x.t0 n)).1 = true by rw [← eR]; exact g9) (by rw [← hp3.2.1]; exact g10); exact ⟨by rw [E]; rfl, qr_tr q03 (qp_qr qq4), by rw [E]; exact pq_tk (pq_pre (qp_qr qq2) hp3) (show (pQ x.tape n (x.t0 n)).1 = true by rw [← eR]; exact g9) qq4 hk4 (by rw [tk4, show y3.qst = y3.tk.2.1 from rfl, hp3.2.1]) (Nat.le_of_eq (by have e9 := congrArg (fun q : TKQ => q.2.1) tk4; exact ((rfT_e y3.tk 2 y3.qst).2.1.symm.trans e9.symm)))⟩) hP hD (show 0 + 0 + 0 + (8 * (rqP (pQ y2.tape y2.qlen y2.tk).1 (pQ y2.tape y2.qlen y2.tk).2.1 - y2.qst)) + 0 ≤ 8 * n by omega) (show 0 + 0 + 0 + (64 * (rqP (pQ y2.tape y2.qlen y2.tk).1 (pQ y2.tape y2.qlen y2.tk).2.1 - y2.qst) + 4 * (cpR (LI.s_el (LI.s_mc (LI.s_sz g 0) (g.mc + 1)) (clF g.el g.sz)).eN (LI.s_el (LI.s_mc (LI.s_sz g 0) (g.mc + 1)) (clF g.el g.sz)).sz (pQ y2.tape y2.qlen y2.tk).2.2.length - (LI.s_el (LI.s_mc (LI.s_sz g 0) (g.mc + 1)) (clF g.el g.sz)).eN)) + 0 ≤ 64 * n + 4 * (cpR g.eN 0 (pQ x.tape n (x.t0 n)).2.2.length - g.eN) by omega) d_Q_read_71
