def VS.aq0 (x : VS) : VS := VS.s_hasTable (VS.s_tapeLength x 0) false
/-- a question has been read, its list of steps is out of ll -/
def VS.aq (x : VS) (n : Nat) (r : va_W) (w : VS) : Prop := ∃ y0 : VS, (x.r0 n).qr y0 ∧ w = VS.s_ll y0.aq0 r
theorem aq_f {x w : VS} {n : Nat} {r : va_W} (h : x.aq n r w) : w.kn = x.kn ∧ w.nser = x.nser ∧ w.nP = x.nP ∧ w.npc = x.npc ∧ w.nsc = x.nsc ∧ w.nsO = x.nsO ∧ w.hsize = x.hsize ∧ w.hN = x.hN ∧ w.hO = x.hO ∧ w.hT = x.hT ∧ w.ll = r ∧ ∀ c, c ∈ x.pl → c ∈ w.pl := by
  obtain ⟨y0, ⟨h1, h2⟩, e⟩ := h
  subst e
  exact ⟨(show y0.kn = x.kn from (congrArg VS.kn h1).trans rfl), (show y0.nser = x.nser from (congrArg VS.nser h1).trans rfl), (show y0.nP = x.nP from (congrArg VS.nP h1).trans rfl), (show y0.npc = x.npc from (congrArg VS.npc h1).trans rfl), (show y0.nsc = x.nsc from (congrArg VS.nsc h1).trans rfl), (show y0.nsO = x.nsO from (congrArg VS.nsO h1).trans rfl), (show y0.hsize = x.hsize from (congrArg VS.hsize h1).trans rfl), (show y0.hN = x.hN from (congrArg VS.hN h1).trans rfl), (show y0.hO = x.hO from (congrArg VS.hO h1).trans rfl), (show y0.hT = x.hT from (congrArg VS.hT h1).trans rfl), rfl, h2⟩
theorem v_tableW (l : Launch) (D : va_G) (dA : Nat → ClassId) (sz : Nat) (h : Nat) (ad : Nat → Nat) (x : VS) (la : Nat → Nat) (g : LI) (AT : Nat → Nat → Nat) (T : Nat → TB) (r : va_W) (hk : skP dA ad r x la g AT T) (hi : 0 < g.sz) : Met l ⟨"SeriesVault$Answers", "table", "()LSeriesVault$Table;"⟩ [Cond.code ⟨"SeriesVault$Answers", "table", "()LSeriesVault$Table;"⟩ prog_2_method_2_code 1 (some (FieldType.object "SeriesVault$Table"))] { frames := 4, cells := 0, slots := 0, locals := 64 } (pC D dA [.ref (ad 24)] (VW dA h ad x) sz) (va_Qr (fun (_ : Unit) => True) (fun (u9 : Unit) (r9 : Nat) t9 => (AT 0 0 = r9) ∧ bW D (va_A (VW dA h ad x) sz) (VW dA h ad x) t9) (va_A (VW dA h ad x) sz)) 0 0 (va_A (VW dA h ad x) sz) := by
  obtain ⟨k1, k2, k3, k4, k5, k6⟩ := hk
  obtain ⟨R, hR⟩ := tbs_x (dA := dA) AT T hi
  have a := sk_pm (L := LiW dA la g) (r := r) (hR AT T (fun _ _ _ => ⟨rfl, rfl⟩))
  have p := llQ2 (dA := dA) (h := h) (ad := ad) (k1.trans a)
  rw [vaA_pm p]
  refine Met_mono (v_Atable l D dA sz h ad (AT 0) (T 0) la g (VS.s_ll x (R ++ r)) k2 k3 (by omega) hi (k6 _ hi)) (Nat.le_refl _) (Nat.le_refl _) (Nat.le_refl _) (Nat.le_refl _) (Nat.le_refl _) (Nat.le_refl _) (fun _ _ q => pC_pm p q) ?_ (fun _ q => q)
  rintro b9 st o9 t9 ⟨⟨u, a9, c1, -, c3, c4⟩, c5⟩
  exact ⟨⟨(), a9, c1, trivial, c3, bW_pm p.symm c4⟩, c5⟩
theorem sk_t {dA : Nat → ClassId} {ad : Nat → Nat} {r : va_W} {x : VS} {la : Nat → Nat} {g : LI} {AT : Nat → Nat → Nat} {T : Nat → TB} {i : Nat} (hk : skP dA ad r x la g AT T) (hi : i < g.sz) : (AT i 0, .inr (8, [.ref (AT i 1), .int (nI (T i).nc), .int (nI (T i).wi), .int (nI (T i).rc), .ref (AT i 2), .ref (AT i 3), .ref (T i).cA])) ∈ x.ll := hk.1.mem_iff.mpr (List.mem_append_right _ (List.mem_append_left _ (tbs_in hi _ (List.mem_of_getElem? (i := 0) rfl))))
/-- no address twice with other contents -/
def plF (ws : va_W) : Prop := ∀ (a : Nat) (u v : va_E), (a, u) ∈ ws → (a, v) ∈ ws → u = v
theorem plF_of {A : Nat → Prop} {ws : va_W} (hD : va_D A ws) : plF ws := by
  intro a u v h1 h2
  obtain ⟨i, hi⟩ := List.mem_iff_getElem?.mp h1
  obtain ⟨j, hj⟩ := List.mem_iff_getElem?.mp h2
  have e := hD.1 i j _ _ hi hj rfl
  rw [e] at hi
  exact (congrArg Prod.snd (Option.some.inj (hi.symm.trans hj)))
theorem plF_s {ws ws1 : va_W} (hs : ∀ c, c ∈ ws → c ∈ ws1) (h : plF ws1) : plF ws := fun a u v h1 h2 => h a u v (hs _ h1) (hs _ h2)
def VS.af0 (x : VS) : VS := VS.s_hasTable (VS.s_faultPlace (VS.s_faultCode (VS.s_tapeLength x 0) x.qcode) x.qpl) false
set_option maxHeartbeats 4000000 in
set_option maxRecDepth 100000 in
theorem v_ask_1 (l : Launch) (htr : l.stackTraces = false) (D : va_G) (dA : Nat → ClassId) (sz : Nat) (h : Nat) (ad : Nat → Nat) (x : VS) (a : Int64) (b : Int64) (n : Int32) (ho : x.powered = false) : mX l ⟨"SeriesVault", "ask", "(JJI)I"⟩ [Cond.code ⟨"SeriesVault", "ask", "(JJI)I"⟩ prog_1_method_45_code 8 (some FieldType.int)] { frames := 7, cells := 1, slots := 6, locals := 101 } (pC D dA [.ref h, .long a, .long b, .int n] (VW dA h ad x) sz) "java/lang/IllegalStateException" (fun st9 t9 => va_F (va_A (VW dA h ad x) sz) st9 t9 ∧ bW D (va_A (VW dA h ad x) sz) (VW dA h ad x) t9) 1 6 (va_A (VW dA h ad x) sz) := by
  refine mkX (y := ⟨"SeriesVault", "ask", "(JJI)I"⟩) (cc := prog_1_method_45_code) (maxL := 8) (av := [.ref h, .long a, .long b, .int n]) (ws := VW dA h ad x) (sz := sz) (B := fun A => (fun st9 t9 => va_F A st9 t9 ∧ bW D A (VW dA h ad x) t9)) (by decide) (Nat.le_of_ble_eq_true rfl) ?_
  intro A p e s m below meth c ls hsz hno hB
  obtain ⟨hx, hb, hr, hml, hown, hin, hlk, hE, hK, hP, hD, hS, hA, hN, hl⟩ := hB
  have hown : s.vm.findClass "SeriesVault" = some m.cls := hown
  have hl : lv_has ls 8 [(0, .ref h), (1, .long a), (3, .long b), (5, .int n)] := hl
  obtain ⟨H, hH⟩ : ∃ z, z = s.heap := ⟨_, rfl⟩
  have hP : va_P D vwCl (VW dA h ad x) H := by rw [hH]; exact hP
  have hS : va_S A s.heap H [] := by rw [hH]; exact hS
  rw [← hH]
  refine lv_aload_n hx hb d_V_ask_0 rfl (lv_at hl 0 rfl) ?_
  refine xfV (w1 := VW dA h ad x) (As := []) (rest := []) hx hb hml hown hE hK (hN _ _ hS) (v_checkPower_x l htr D dA H.size h ad x ho) (q0 := 0) rfl rfl w278 w276 w279 w280 w277 rfl rfl ⟨⟨by decide, by decide⟩, rfl⟩ ⟨(Nat.le_of_ble_eq_true rfl), (Nat.le_of_ble_eq_true rfl)⟩ rfl hl.1 rfl (Nat.le_of_ble_eq_true rfl) d_V_ask_1 ⟨(Nat.le_of_ble_eq_true rfl), (Nat.le_of_ble_eq_true rfl)⟩ hP hD hS hA (fun xa1 ce H locs hP hD hS hce hcv hcl => ?_)
  exact xOut hno hlk hce hcv hcl (fun t ht => xEndV hP hD hS t (by rw [ht]; exact Nat.le_refl _) (fun q _ => by rw [ht])) hS.2.2 (Nat.le_of_ble_eq_true rfl) (Nat.le_of_ble_eq_true rfl)
set_option maxHeartbeats 4000000 in
set_option maxRecDepth 100000 in
theorem v_ask_f (l : Launch) (D : va_G) (dA : Nat → ClassId) (sz : Nat) (e0 mi : Nat) (kA vA : Nat → Nat) (fm : Nat) (h : Nat) (ad : Nat → Nat) (sa : Nat) (g : LI) (r : va_W) (x : VS) (fr : Int64) (wd : Int64) (nw : Nat) (ho : x.powered = true) (t1 : isTm fr = true) (t2 : 1 ≤ wd) (t3 : wd ≤ 1099511627775) (t4 : 1 ≤ nw) (t5 : nw ≤ 64) (hsa : sa = ad 23) (hll : x.ll = LqW dA sa g ++ r) (hst : stL e0 x.pl g) (hn : x.tapeLength ≤ 16384) (h2 : x.tapeLength ≤ x.tpN) (h3 : x.tpN ≤ 131072) (hby : byteF x.tape) (hR : (qRd (pQ x.tape x.tapeLength (x.t0 x.tapeLength))).1 = false) : Met l ⟨"SeriesVault", "ask", "(JJI)I"⟩ [Cond.code ⟨"SeriesVault", "ask", "(JJI)I"⟩ prog_1_method_45_code 8 (some FieldType.int)] { frames := 274, cells := 8 * x.tapeLength, slots := 64 * x.tapeLength + 4 * (cpR g.eN 0 (pQ x.tape x.tapeLength (x.t0 x.tapeLength)).2.2.length - g.eN), locals := 6670 } (pCs D dA e0 mi kA vA fm [.ref h, .long fr, .long wd, .int (nI nw)] (VW dA h ad x) sz) (va_Qi (fun (r9 : Int32) (u9 : VS × LI × VS × VS) => r9 = (-1) ∧ (x.r0 x.tapeLength).qr u9.2.2.2 ∧ VS.pq dA e0 sa r u9.2.2.1 (LI.s_el (LI.s_mc (LI.s_sz g 0) (g.mc + 1)) (clF g.el g.sz)) (qRd (pQ x.tape x.tapeLength (x.t0 x.tapeLength))) u9.2.2.2 u9.2.1 ∧ u9.1 = u9.2.2.2.af0) (fun (u9 : VS × LI × VS × VS) t9 => bW D (va_A (VW dA h ad x) sz) (VW dA h ad u9.1) t9) (va_A (VW dA h ad x) sz)) (8 * x.tapeLength) (64 * x.tapeLength + 4 * (cpR g.eN 0 (pQ x.tape x.tapeLength (x.t0 x.tapeLength)).2.2.length - g.eN)) (va_A (VW dA h ad x) sz) := by
  refine mkS (y := ⟨"SeriesVault", "ask", "(JJI)I"⟩) (cc := prog_1_method_45_code) (maxL := 8) (av := [.ref h, .long fr, .long wd, .int (nI nw)]) (ws := VW dA h ad x) (sz := sz) (Qc := fun A => va_Qi (fun (r9 : Int32) (u9 : VS × LI × VS × VS) => r9 = (-1) ∧ (x.r0 x.tapeLength).qr u9.2.2.2 ∧ VS.pq dA e0 sa r u9.2.2.1 (LI.s_el (LI.s_mc (LI.s_sz g 0) (g.mc + 1)) (clF g.el g.sz)) (qRd (pQ x.tape x.tapeLength (x.t0 x.tapeLength))) u9.2.2.2 u9.2.1 ∧ u9.1 = u9.2.2.2.af0) (fun (u9 : VS × LI × VS × VS) t9 => bW D A (VW dA h ad u9.1) t9) A) (by decide) (Nat.le_of_ble_eq_true rfl) ?_
  intro A p e s m below meth c ls hsz hZ hT hM hQ hB
  obtain ⟨hx, hb, hr, hml, hown, hin, hlk, hE, hK, hP, hD, hS, hA, hN, hl⟩ := hB
  have hown : s.vm.findClass "SeriesVault" = some m.cls := hown
  have hl : lv_has ls 8 [(0, .ref h), (1, .long fr), (3, .long wd), (5, .int (nI nw))] := hl
  obtain ⟨H, hH⟩ : ∃ z, z = s.heap := ⟨_, rfl⟩
  have hP : va_P D vwCl (VW dA h ad x) H := by rw [hH]; exact hP
  have hS : va_S A s.heap H [] := by rw [hH]; exact hS
  rw [← hH]
  refine lv_aload_n hx hb d_V_ask_0 rfl (lv_at hl 0 rfl) ?_
  refine jkV (wr := []) (rnV (As := []) (rest := []) hx hb hml hown hE hK (hN _ _ hS) hP hD (v_checkPower l D dA H.size h ad x ho) (q0 := 0) rfl rfl w278 w276 w279 w280 w277 rfl rfl ⟨⟨by decide, by decide⟩, rfl⟩ ⟨(Nat.le_of_ble_eq_true rfl), (Nat.le_of_ble_eq_true rfl)⟩ rfl hl.1 rfl (Nat.le_of_ble_eq_true rfl) d_V_ask_1 ⟨(show 0 + 0 ≤ 8 * x.tapeLength by omega), (show 0 + 0 ≤ 64 * x.tapeLength + 4 * (cpR g.eN 0 (pQ x.tape x.tapeLength (x.t0 x.tapeLength)).2.2.length - g.eN) by omega)⟩) hP hD hS hA (fun u2 H locs hp9 hP hD hS => ?_)
  have hP : va_P D vwCl (VW dA h ad x) H := hP
  have hD : va_D A (VW dA h ad x) := hD
  refine lv_lload_n hx hb d_V_ask_4 rfl (lv_at hl 1 rfl) ?_
  have hPc := hP.sub (ws' := []) [] rfl
  have hDc := hD.sub (ws' := []) [] (by decide) rfl
  refine jpI (rnS (As := [.long fr]) (rest := []) hx hb hml hown hE hK (hN _ _ hS) hPc hDc (v_isTime l D dA H.size fr) w693 w692 w694 w277 rfl rfl ⟨⟨by decide, by decide⟩, rfl⟩ ⟨(Nat.le_of_ble_eq_true rfl), (Nat.le_of_ble_eq_true rfl)⟩ rfl hl.1 rfl (Nat.le_of_ble_eq_true rfl) d_V_ask_5 ⟨(show 0 + 0 + 0 ≤ 8 * x.tapeLength by omega), (show 0 + 0 + 0 ≤ 64 * x.tapeLength + 4 * (cpR g.eN 0 (pQ x.tape x.tapeLength (x.t0 x.tapeLength)).2.2.length - g.eN) by omega)⟩) hP hD hS hA (fun r3 u9 H locs hp9 hP hD hS => ?_)
  have hP : va_P D vwCl (VW dA h ad x) H := hP
  have hD : va_D A (VW dA h ad x) := hD
  replace hp9 : bI (isTm fr) = r3 := Eq.symm hp9
  subst hp9
  refine lv_if_eq hx hb d_V_ask_8 (tgt := 38) rfl (fun h9 => absurd h9 (by rw [t1]; decide)) (fun _ => ?_)
  refine lv_lload_n hx hb d_V_ask_11 rfl (lv_at hl 2 rfl) ?_
  refine lv_lconst (v := 1) hx hb d_V_ask_12 (by decide) ?_
  refine W.lcmp hx hb d_V_ask_13 ?_
  refine lv_if_lt hx hb d_V_ask_14 (tgt := 38) rfl (fun h9 => absurd h9 (mt (lg_cmp_lt _ _).mp (Int64.not_lt.mpr t2))) (fun _ => ?_)
  refine lv_lload_n hx hb d_V_ask_17 rfl (lv_at hl 2 rfl) ?_
  refine lv_ldc2 (v := 1099511627775) hx hb hown (hE.t w653 rfl) d_V_ask_18 ?_
  refine W.lcmp hx hb d_V_ask_21 ?_
  refine lv_if_gt hx hb d_V_ask_22 (tgt := 38) rfl (fun h9 => absurd h9 (mt (lg_cmp_gt _ _).mp (Int64.not_lt.mpr t3))) (fun _ => ?_)
  refine lv_iload hx hb d_V_ask_25 (lv_at hl 3 rfl) ?_
  refine lv_iconst (v := 1) hx hb d_V_ask_27 (by decide) ?_
  refine lv_icmp_lt hx hb d_V_ask_28 (tgt := 38) rfl (fun h9 => absurd h9 (mt (nI_ltI (a := nw) (b := 1) (by omega) (by omega)).mp (Nat.not_lt.mpr t4))) (fun _ => ?_)
  refine lv_iload hx hb d_V_ask_31 (lv_at hl 3 rfl) ?_
  refine lv_bipush (v := 64) hx hb d_V_ask_33 (by decide) ?_
  refine lv_icmp_le hx hb d_V_ask_35 (tgt := 46) rfl (fun _ => ?_) (fun h9 => absurd ((nI_leI (a := nw) (b := 64) (by omega) (by omega)).mpr t5) h9)
  refine lv_aload_n hx hb d_V_ask_46 rfl (lv_at hl 0 rfl) ?_
  refine gF (v := .ref (ad 22)) hx hb hown hE hK hP 0 rfl rfl layV 15 (by decide) w695 rfl d_V_ask_47 ?_
  refine lv_aload_n hx hb d_V_ask_50 rfl (lv_at hl 0 rfl) ?_
  refine gF (v := .ref x.tpA) hx hb hown hE hK hP 0 rfl rfl layV 0 (by decide) w539 rfl d_V_ask_51 ?_
  refine lv_aload_n hx hb d_V_ask_54 rfl (lv_at hl 0 rfl) ?_
  refine gF (v := .int (nI x.tapeLength)) hx hb hown hE hK hP 0 rfl rfl layV 1 (by decide) w259 rfl d_V_ask_55 ?_
  refine jkI (wr := []) (rnVs (As := [.ref x.tpA, .int (nI x.tapeLength)]) (rest := []) hx hb hml hown hE hK hZ hT hM hQ hS (hN _ _ hS) hP hD (v_Qread l D dA H.size e0 mi kA vA fm h ad sa g r x x.tapeLength hsa hll hst hn h2 h3 hby) (q0 := 36) rfl rfl w697 w696 w698 w699 w665 rfl rfl ⟨⟨by decide, by decide⟩, rfl⟩ ⟨(Nat.le_of_ble_eq_true rfl), (Nat.le_of_ble_eq_true rfl)⟩ rfl hl.1 rfl (Nat.le_of_ble_eq_true rfl) d_V_ask_58 ⟨(show 0 + 0 + 0 + (8 * x.tapeLength) ≤ 8 * x.tapeLength by omega), (show 0 + 0 + 0 + (64 * x.tapeLength + 4 * (cpR g.eN 0 (pQ x.tape x.tapeLength (x.t0 x.tapeLength)).2.2.length - g.eN)) ≤ 64 * x.tapeLength + 4 * (cpR g.eN 0 (pQ x.tape x.tapeLength (x.t0 x.tapeLength)).2.2.length - g.eN) by omega)⟩) hP hD hS hA (fun r5 u6 H locs hp9 hP hD hS => ?_)
  obtain ⟨y0, gq, y1⟩ := u6
  have hP : va_P D vwCl (VW dA h ad y0) H := hP
  have hD : va_D A (VW dA h ad y0) := hD
  obtain ⟨hp9, f_q_7, f_p_8⟩ := hp9
  replace hp9 : bI (qRd (pQ x.tape x.tapeLength (x.t0 x.tapeLength))).1 = r5 := Eq.symm hp9
  subst hp9
  refine tpi (y := 0) (by rw [hR]; rfl) ?_
  refine lv_istore hx hb d_V_ask_61 hl (by decide) rfl (fun ls hl => ?_)
  have hl : lv_has ls 8 [(6, .int 0), (0, .ref h), (1, .long fr), (3, .long wd), (5, .int (nI nw))] := hl
  refine lv_aload_n hx hb d_V_ask_63 rfl (lv_at hl 1 rfl) ?_
  refine lv_iconst (v := 0) hx hb d_V_ask_64 (by decide) ?_
  refine pF (v := .int (nI 0)) hx hb hown hE hK hP hD hS 0 rfl rfl layV tyV tokV nmV 1 (by decide) w259 rfl rfl rfl (Nat.le_of_ble_eq_true rfl) d_V_ask_65 (fun H locs hP hD hS => ?_)
  have hP : va_P D vwCl (VW dA h ad (VS.s_tapeLength y0 0)) H := hP
  have hD : va_D A (VW dA h ad (VS.s_tapeLength y0 0)) := hD
  refine lv_aload_n hx hb d_V_ask_68 rfl (lv_at hl 1 rfl) ?_
  refine lv_iconst (v := 0) hx hb d_V_ask_69 (by decide) ?_
  refine pF (v := .int (bI false)) hx hb hown hE hK hP hD hS 0 rfl rfl layV tyV tokV nmV 17 (by decide) w210 rfl (bI_nar false) (bI_fit false) (Nat.le_of_ble_eq_true rfl) d_V_ask_70 (fun H locs hP hD hS => ?_)
  have hP : va_P D vwCl (VW dA h ad (VS.s_hasTable (VS.s_tapeLength y0 0) false)) H := hP
  have hD : va_D A (VW dA h ad (VS.s_hasTable (VS.s_tapeLength y0 0) false)) := hD
  refine lv_iload hx hb d_V_ask_73 (lv_at hl 0 rfl) ?_
  refine lv_if_ne hx hb d_V_ask_75 (tgt := 98) rfl (fun h9 => absurd (by decide) h9) (fun _ => ?_)
  refine lv_aload_n hx hb d_V_ask_78 rfl (lv_at hl 1 rfl) ?_
  refine lv_aload_n hx hb d_V_ask_79 rfl (lv_at hl 1 rfl) ?_
  refine gF (v := .ref (ad 22)) hx hb hown hE hK hP 0 rfl rfl layV 15 (by decide) w695 rfl d_V_ask_80 ?_
  refine gFN (v := .int y0.qcode) hx hb hown hE hK hP 36 rfl rfl layQ 6 (by decide) w700 rfl d_V_ask_83 ?_
  refine lv_aload_n hx hb d_V_ask_86 rfl (lv_at hl 1 rfl) ?_
  refine gF (v := .ref (ad 22)) hx hb hown hE hK hP 0 rfl rfl layV 15 (by decide) w695 rfl d_V_ask_87 ?_
  refine gFN (v := .int y0.qpl) hx hb hown hE hK hP 36 rfl rfl layQ 7 (by decide) w701 rfl d_V_ask_90 ?_
  refine jkV (wr := []) (rnV (As := [.int y0.qcode, .int y0.qpl]) (rest := []) hx hb hml hown hE hK (hN _ _ hS) hP hD (v_setFault l D dA H.size h ad (VS.s_hasTable (VS.s_tapeLength y0 0) false) y0.qcode y0.qpl) (q0 := 0) rfl rfl w616 w615 w617 w618 w277 rfl rfl ⟨⟨by decide, by decide⟩, rfl⟩ ⟨(Nat.le_of_ble_eq_true rfl), (Nat.le_of_ble_eq_true rfl)⟩ rfl hl.1 rfl (Nat.le_of_ble_eq_true rfl) d_V_ask_93 ⟨(show 0 + 0 + 0 + (8 * x.tapeLength) + 0 ≤ 8 * x.tapeLength by omega), (show 0 + 0 + 0 + (64 * x.tapeLength + 4 * (cpR g.eN 0 (pQ x.tape x.tapeLength (x.t0 x.tapeLength)).2.2.length - g.eN)) + 0 ≤ 64 * x.tapeLength + 4 * (cpR g.eN 0 (pQ x.tape x.tapeLength (x.t0 x.tapeLength)).2.2.length - g.eN) by omega)⟩) hP hD hS hA (fun u10 H locs hp9 hP hD hS => ?_)
  have hP : va_P D vwCl (VW dA h ad (VS.s_hasTable (VS.s_faultPlace (VS.s_faultCode (VS.s_tapeLength y0 0) y0.qcode) y0.qpl) false)) H := hP
  have hD : va_D A (VW dA h ad (VS.s_hasTable (VS.s_faultPlace (VS.s_faultCode (VS.s_tapeLength y0 0) y0.qcode) y0.qpl) false)) := hD
  refine lv_iconst (v := (-1)) hx hb d_V_ask_96 (by decide) ?_
  exact rfI hx hb hr hlk hS (⟨VS.s_hasTable (VS.s_faultPlace (VS.s_faultCode (VS.s_tapeLength y0 0) y0.qcode) y0.qpl) false, gq, y1, y0⟩) ⟨rfl, f_q_7, f_p_8, rfl⟩ hP hD (show 0 + 0 + 0 + (8 * x.tapeLength) + 0 ≤ 8 * x.tapeLength by omega) (show 0 + 0 + 0 + (64 * x.tapeLength + 4 * (cpR g.eN 0 (pQ x.tape x.tapeLength (x.t0 x.tapeLength)).2.2.length - g.eN)) + 0 ≤ 64 * x.tapeLength + 4 * (cpR g.eN 0 (pQ x.tape x.tapeLength (x.t0 x.tapeLength)).2.2.length - g.eN) by omega) d_V_ask_97
