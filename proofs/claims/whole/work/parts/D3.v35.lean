/-! Tables joined. -/
def TB.jr (sg : Int32) (t : TB) (both : Int64) (L R : Nat → Int64) (g : Nat) : TB := TB.s_ce (TB.s_th t (va_up t.th g (jrW sg both L R t.ce (g * t.wi) t.wi).1)) (jrW sg both L R t.ce (g * t.wi) t.wi).2
/-- left: row a of this one and row b of the other; right: row a of the other and row b of this one -/
def TB.jrl (sg : Int32) (t u : TB) (a b g : Nat) : TB := t.jr sg (t.th a &&& u.th b) (fun w => t.ce (a * t.wi + w)) (fun w => u.ce (b * u.wi + w)) g
def TB.jrr (sg : Int32) (t u : TB) (a b g : Nat) : TB := t.jr sg (u.th a &&& t.th b) (fun w => u.ce (a * u.wi + w)) (fun w => t.ce (b * t.wi + w)) g
def jsL (sg : Int32) (t u : TB) : Nat → TB
  | 0 => t
  | r + 1 => TB.jrl sg (jsL sg t u r) u r 0 r
def jsR (sg : Int32) (t u : TB) : Nat → TB
  | 0 => t
  | r + 1 => TB.jrr sg (jsR sg t u r) u 0 r r
theorem jsL_k (sg : Int32) (t u : TB) : ∀ r, (jsL sg t u r).wi = t.wi ∧ (jsL sg t u r).rc = t.rc ∧ (jsL sg t u r).cN = t.cN ∧ (jsL sg t u r).rs = t.rs ∧ (jsL sg t u r).cA = t.cA
  | 0 => ⟨rfl, rfl, rfl, rfl, rfl⟩
  | r + 1 => jsL_k sg t u r
theorem jsR_k (sg : Int32) (t u : TB) : ∀ r, (jsR sg t u r).wi = t.wi ∧ (jsR sg t u r).rc = t.rc ∧ (jsR sg t u r).cN = t.cN ∧ (jsR sg t u r).rs = t.rs ∧ (jsR sg t u r).cA = t.cA
  | 0 => ⟨rfl, rfl, rfl, rfl, rfl⟩
  | r + 1 => jsR_k sg t u r
def TB.jsl (sg : Int32) (t u : TB) : TB := if u.rc = 0 then TB.de (TB.s_rc t 0) else (jsL sg t u t.rc).de
def TB.jsr (sg : Int32) (t u : TB) : TB := if u.rc = 0 then TB.de (TB.s_rc t 0) else (jsR sg t u t.rc).de
/-- where the other one's rows stand that are not below -/
def jmO (lt : Nat → Bool) (rc : Nat) : Nat → Nat → Nat
  | 0, o => o
  | f + 1, o => if lt o = true then jmO lt rc f (o + 1) else o
theorem jmO_y {lt : Nat → Bool} {rc o : Nat} (h : o < rc) (h1 : lt o = true) : jmO lt rc (rc - o) o = jmO lt rc (rc - (o + 1)) (o + 1) := by
  rw [show rc - o = rc - (o + 1) + 1 by omega]
  show (if _ then _ else _) = _
  rw [if_pos h1]
theorem jmO_n {lt : Nat → Bool} {rc o : Nat} (h : lt o = false) : jmO lt rc (rc - o) o = o := by
  cases rc - o with
  | zero => rfl
  | succ f =>
    show (if _ then _ else _) = _
    rw [if_neg (by rw [h]; decide)]
theorem jmO_z {lt : Nat → Bool} {rc o : Nat} (h : rc ≤ o) : jmO lt rc (rc - o) o = o := by
  rw [show rc - o = 0 by omega]; rfl
def jmQ (NL : Nat → List Int32) (nc : Nat) (u : TB) (RU : Nat → List LB) (S : List LB) (o : Nat) : Nat := jmO (ltT NL nc RU S) u.rc (u.rc - o) o
def jmS (sg : Int32) (NL : Nat → List Int32) (nc : Nat) (u : TB) (RS RU : Nat → List LB) (r : Nat) (n o : Nat) (z : TB) : Nat × Nat × TB := if jmQ NL nc u RU (RS r) o < u.rc ∧ cmT NL nc (RU (jmQ NL nc u RU (RS r) o)) (RS r) = 0 then (n + 1, jmQ NL nc u RU (RS r) o, TB.jrl sg (z.mv r n) u n (jmQ NL nc u RU (RS r) o) n) else (n, jmQ NL nc u RU (RS r) o, z)
def jmG (sg : Int32) (NL : Nat → List Int32) (t u : TB) (RS RU : Nat → List LB) : Nat → Nat × Nat × TB
  | 0 => (0, 0, t)
  | r + 1 => jmS sg NL t.nc u RS RU r (jmG sg NL t u RS RU r).1 (jmG sg NL t u RS RU r).2.1 (jmG sg NL t u RS RU r).2.2
section JM
variable {sg : Int32} {NL : Nat → List Int32} {nc : Nat} {u : TB} {RS RU : Nat → List LB} {r n o o' : Nat} {z : TB}
theorem jmS_y (h : jmQ NL nc u RU (RS r) o = o') (h1 : o' < u.rc) (h2 : cmT NL nc (RU o') (RS r) = 0) : jmS sg NL nc u RS RU r n o z = (n + 1, o', TB.jrl sg (z.mv r n) u n o' n) := by
  unfold jmS; rw [h, if_pos ⟨h1, h2⟩]
theorem jmS_n1 (h : jmQ NL nc u RU (RS r) o = o') (h1 : u.rc ≤ o') : jmS sg NL nc u RS RU r n o z = (n, o', z) := by
  unfold jmS; rw [h, if_neg (fun h => by omega)]
theorem jmS_n2 (h : jmQ NL nc u RU (RS r) o = o') (h2 : ¬ cmT NL nc (RU o') (RS r) = 0) : jmS sg NL nc u RS RU r n o z = (n, o', z) := by
  unfold jmS; rw [h, if_neg (fun h => h2 h.2)]
end JM
/-- what stays while rows are joined: sizes, names; rows at or behind r are as they were -/
def jmK (t : TB) (r n : Nat) (z : TB) : Prop := z.wi = t.wi ∧ z.rc = t.rc ∧ z.cN = t.cN ∧ n ≤ r ∧ z.nm = t.nm ∧ z.nc = t.nc ∧ z.cA = t.cA ∧ ∀ q, r ≤ q → z.rs q = t.rs q
theorem jmK_n {t z : TB} {r n : Nat} (h : jmK t r n z) : jmK t (r + 1) n z := by
  obtain ⟨h1, h2, h3, h4, h5, h6, h7, h8⟩ := h
  exact ⟨h1, h2, h3, by omega, h5, h6, h7, fun q hq => h8 q (by omega)⟩
theorem jmK_y {sg : Int32} {t z u : TB} {r n o : Nat} (h : jmK t r n z) : jmK t (r + 1) (n + 1) (TB.jrl sg (z.mv r n) u n o n) := by
  obtain ⟨h1, h2, h3, h4, h5, h6, h7, h8⟩ := h
  refine ⟨h1, h2, h3, by omega, h5, h6, h7, fun q hq => ?_⟩
  show va_up z.rs n (z.rs r) q = t.rs q
  rw [va_up_ne _ _ (by omega)]
  exact h8 q (by omega)
theorem rsAll_mv {dA : Nat → ClassId} {ws : va_W} {z : TB} {r n : Nat} (h : rsAll dA ws z.rs) : rsAll dA ws (z.mv r n).rs := rsAll_up h (fun a ha => h r a ha)
def TB.jm (sg : Int32) (NL : Nat → List Int32) (t u : TB) (RS RU : Nat → List LB) : TB := TB.de (TB.s_rc (jmG sg NL t u RS RU t.rc).2.2 (jmG sg NL t u RS RU t.rc).1)
theorem d_T_joinWithSingle_0 : decode prog_11_method_18_code 0 = .ok (.aload_n 2, 1) := by decide +kernel
theorem d_T_joinWithSingle_1 : decode prog_11_method_18_code 1 = .ok (.getfield 37, 3) := by decide +kernel
theorem d_T_joinWithSingle_4 : decode prog_11_method_18_code 4 = .ok (.ifCond .ne 8, 3) := by decide +kernel
theorem d_T_joinWithSingle_12 : decode prog_11_method_18_code 12 = .ok (.iconst 0, 1) := by decide +kernel
theorem d_T_joinWithSingle_13 : decode prog_11_method_18_code 13 = .ok (.istore 4, 2) := by decide +kernel
theorem d_T_joinWithSingle_15 : decode prog_11_method_18_code 15 = .ok (.iload 4, 2) := by decide +kernel
theorem d_T_joinWithSingle_17 : decode prog_11_method_18_code 17 = .ok (.aload_n 0, 1) := by decide +kernel
theorem d_T_joinWithSingle_18 : decode prog_11_method_18_code 18 = .ok (.getfield 37, 3) := by decide +kernel
theorem d_T_joinWithSingle_21 : decode prog_11_method_18_code 21 = .ok (.if_icmp .ge 40, 3) := by decide +kernel
theorem d_T_joinWithSingle_61 : decode prog_11_method_18_code 61 = .ok (.aload_n 0, 1) := by decide +kernel
theorem d_T_joinWithSingle_62 : decode prog_11_method_18_code 62 = .ok (.invokevirtual 97, 3) := by decide +kernel
theorem d_T_joinWithSingle_65 : decode prog_11_method_18_code 65 = .ok (.return_, 1) := by decide +kernel
theorem d_T_joinWithSingle_24 : decode prog_11_method_18_code 24 = .ok (.iload_n 3, 1) := by decide +kernel
theorem d_T_joinWithSingle_25 : decode prog_11_method_18_code 25 = .ok (.ifCond .eq 18, 3) := by decide +kernel
theorem d_T_joinWithSingle_43 : decode prog_11_method_18_code 43 = .ok (.aload_n 0, 1) := by decide +kernel
theorem d_T_joinWithSingle_44 : decode prog_11_method_18_code 44 = .ok (.iload_n 1, 1) := by decide +kernel
theorem d_T_joinWithSingle_45 : decode prog_11_method_18_code 45 = .ok (.aload_n 0, 1) := by decide +kernel
theorem d_T_joinWithSingle_46 : decode prog_11_method_18_code 46 = .ok (.iload 4, 2) := by decide +kernel
theorem d_T_joinWithSingle_48 : decode prog_11_method_18_code 48 = .ok (.aload_n 2, 1) := by decide +kernel
theorem d_T_joinWithSingle_49 : decode prog_11_method_18_code 49 = .ok (.iconst 0, 1) := by decide +kernel
theorem d_T_joinWithSingle_50 : decode prog_11_method_18_code 50 = .ok (.iload 4, 2) := by decide +kernel
theorem d_T_joinWithSingle_52 : decode prog_11_method_18_code 52 = .ok (.invokevirtual 93, 3) := by decide +kernel
theorem d_T_joinWithSingle_55 : decode prog_11_method_18_code 55 = .ok (.iinc 4 1, 3) := by decide +kernel
theorem d_T_joinWithSingle_58 : decode prog_11_method_18_code 58 = .ok (.goto (-43), 3) := by decide +kernel
theorem w1436 : Cond.methodLink "SeriesVault$Table" 97 ⟨"SeriesVault$Table", "dropEmptyRows", "()V"⟩ ∈ aW := aw_of (tb_8 (List.mem_of_getElem? (i := 62) rfl)) rfl
theorem w1437 : Cond.code ⟨"SeriesVault$Table", "dropEmptyRows", "()V"⟩ prog_11_method_14_code 3 none ∈ aW := aw_of (tb_8 (List.mem_of_getElem? (i := 31) rfl)) rfl
theorem w1438 : Cond.instanceMethod ⟨"SeriesVault$Table", "dropEmptyRows", "()V"⟩ ∈ aW := aw_of (tb_8 (List.mem_of_getElem? (i := 29) rfl)) rfl
theorem w1439 : Cond.selects "SeriesVault$Table" ⟨"SeriesVault$Table", "dropEmptyRows", "()V"⟩ ⟨"SeriesVault$Table", "dropEmptyRows", "()V"⟩ ∈ aW := aw_of (tb_8 (List.mem_of_getElem? (i := 30) rfl)) rfl
theorem w1440 : Cond.methodLink "SeriesVault$Table" 93 ⟨"SeriesVault$Table", "joinRow", "(ILSeriesVault$Table;ILSeriesVault$Table;II)V"⟩ ∈ aW := aw_of (tb_8 (List.mem_of_getElem? (i := 54) rfl)) rfl
theorem w1441 : Cond.code ⟨"SeriesVault$Table", "joinRow", "(ILSeriesVault$Table;ILSeriesVault$Table;II)V"⟩ prog_11_method_19_code 17 none ∈ aW := aw_of (tb_8 (List.mem_of_getElem? (i := 57) rfl)) rfl
theorem w1442 : Cond.instanceMethod ⟨"SeriesVault$Table", "joinRow", "(ILSeriesVault$Table;ILSeriesVault$Table;II)V"⟩ ∈ aW := aw_of (tb_8 (List.mem_of_getElem? (i := 56) rfl)) rfl
theorem w1443 : Cond.selects "SeriesVault$Table" ⟨"SeriesVault$Table", "joinRow", "(ILSeriesVault$Table;ILSeriesVault$Table;II)V"⟩ ⟨"SeriesVault$Table", "joinRow", "(ILSeriesVault$Table;ILSeriesVault$Table;II)V"⟩ ∈ aW := aw_pr (List.mem_map.mpr ⟨_, pv_4 (List.mem_of_getElem? (i := 15) rfl), rfl⟩) rfl
set_option maxHeartbeats 4000000 in
set_option maxRecDepth 100000 in
theorem v_TjoinWithSingle_l (l : Launch) (D : va_G) (dA : Nat → ClassId) (sz : Nat) (ws : va_W) (ta : Nat → Nat) (t : TB) (tb : Nat → Nat) (u : TB) (sg : Int32) (hop : isOp sg) (hcN : t.cN ≤ 65536) (hcM : u.cN ≤ 65536) (h1 : t.rc * t.wi ≤ t.cN) (h2 : t.rc ≤ 256) (hw : u.wi = t.wi) (h3 : u.rc * u.wi ≤ u.cN) (h4 : u.rc ≤ 256) (hrs : rsAll dA ws t.rs) (hu : ¬ u.rc = 0) : Met l ⟨"SeriesVault$Table", "joinWithSingle", "(ILSeriesVault$Table;Z)V"⟩ [Cond.code ⟨"SeriesVault$Table", "joinWithSingle", "(ILSeriesVault$Table;Z)V"⟩ prog_11_method_18_code 5 none] { frames := 3, cells := 0, slots := 0, locals := 84 } (pC D dA [.ref (ta 0), .int sg, .ref (tb 0), .int 0] (TbW dA ta t ++ (TbW dA tb u ++ (ws))) sz) (va_Qv (fun (u9 : TB) => u9 = (jsL sg t u t.rc).de) (fun (u9 : TB) t9 => bW D (va_A (TbW dA ta t ++ (TbW dA tb u ++ (ws))) sz) (TbW dA ta u9 ++ (TbW dA tb u ++ (ws))) t9) (va_A (TbW dA ta t ++ (TbW dA tb u ++ (ws))) sz)) 0 0 (va_A (TbW dA ta t ++ (TbW dA tb u ++ (ws))) sz) := by
  refine mkC (y := ⟨"SeriesVault$Table", "joinWithSingle", "(ILSeriesVault$Table;Z)V"⟩) (cc := prog_11_method_18_code) (maxL := 5) (av := [.ref (ta 0), .int sg, .ref (tb 0), .int 0]) (ws := TbW dA ta t ++ (TbW dA tb u ++ (ws))) (sz := sz) (Qc := fun A => va_Qv (fun (u9 : TB) => u9 = (jsL sg t u t.rc).de) (fun (u9 : TB) t9 => bW D A (TbW dA ta u9 ++ (TbW dA tb u ++ (ws))) t9) A) (by decide) (Nat.le_of_ble_eq_true rfl) ?_
  intro A p e s m below meth c ls hsz hB
  obtain ⟨hx, hb, hr, hml, hown, hin, hlk, hE, hK, hP, hD, hS, hA, hN, hl⟩ := hB
  have hown : s.vm.findClass "SeriesVault$Table" = some m.cls := hown
  have hl : lv_has ls 5 [(0, .ref (ta 0)), (1, .int sg), (2, .ref (tb 0)), (3, .int 0)] := hl
  obtain ⟨H, hH⟩ : ∃ z, z = s.heap := ⟨_, rfl⟩
  have hP : va_P D vwCl (TbW dA ta t ++ (TbW dA tb u ++ (ws))) H := by rw [hH]; exact hP
  have hS : va_S A s.heap H [] := by rw [hH]; exact hS
  rw [← hH]
  refine lv_aload_n hx hb d_T_joinWithSingle_0 rfl (lv_at hl 2 rfl) ?_
  refine gF (v := .int (nI u.rc)) hx hb hown hE hK hP 5 rfl rfl layT 3 (by decide) w1368 rfl d_T_joinWithSingle_1 ?_
  refine lv_if_ne hx hb d_T_joinWithSingle_4 (tgt := 12) rfl (fun _ => ?_) (fun h9 => absurd h9 (mt (nI_eq (a := u.rc) (b := 0) (by omega) (by omega)).mp hu))
  refine lv_iconst (v := 0) hx hb d_T_joinWithSingle_12 (by decide) ?_
  refine lv_istore hx hb d_T_joinWithSingle_13 hl (by decide) rfl (fun ls hl => ?_)
  have hl : lv_has ls 5 [(4, .int 0), (0, .ref (ta 0)), (1, .int sg), (2, .ref (tb 0)), (3, .int 0)] := hl
  have L15 : ∀ (k9 : Nat) (i : Nat) (z : TB) (i1 : i ≤ t.rc) (ez : z = jsL sg t u i) (hk9 : t.rc - i = k9), ∀ (H : Heap) (locs : List Loc) (ls : Array Slot) (hP : va_P D vwCl (TbW dA ta z ++ (TbW dA tb u ++ (ws))) H) (hD : va_D A (TbW dA ta z ++ (TbW dA tb u ++ (ws)))) (hS : va_S A s.heap H locs) (hl : lv_has ls 5 [(4, .int (nI i)), (0, .ref (ta 0)), (1, .int sg), (2, .ref (tb 0)), (3, .int 0)]), W p l e ({ frames := 3, cells := 0, slots := 0, locals := 84 } : Room) s m ([.ref (ta 0), .int sg, .ref (tb 0), .int 0] : List Value).toArray below meth c H locs 0 0 (MQ below (va_Qv (fun (u9 : TB) => u9 = (jsL sg t u t.rc).de) (fun (u9 : TB) t9 => bW D A (TbW dA ta u9 ++ (TbW dA tb u ++ (ws))) t9) A) ([.ref (ta 0), .int sg, .ref (tb 0), .int 0] : List Value).toArray s 0 0 A) (F0 m 15 ls []) := by
    intro k9
    induction k9 using Nat.strongRecOn with
    | ind k9 ih15 =>
      intro i z i1 ez hk9 H locs ls hP hD hS hl
      have zk := jsL_k sg t u i
      rw [← ez] at zk
      obtain ⟨k1, k2, k3, k4, k5⟩ := zk
      refine lv_iload hx hb d_T_joinWithSingle_15 (lv_at hl 0 rfl) ?_
      refine lv_aload_n hx hb d_T_joinWithSingle_17 rfl (lv_at hl 1 rfl) ?_
      refine gF (v := .int (nI z.rc)) hx hb hown hE hK hP 0 rfl rfl layT 3 (by decide) w1368 rfl d_T_joinWithSingle_18 ?_
      refine lv_icmp_ge hx hb d_T_joinWithSingle_21 (tgt := 61) rfl (fun g1 => ?_) (fun g1 => ?_)
      · have g1 := (nI_leI (a := z.rc) (b := i) (by omega) (by omega)).mp g1
        have k2 : z.rc = t.rc := k2
        have k3 : z.cN = t.cN := k3
        refine lv_aload_n hx hb d_T_joinWithSingle_61 rfl (lv_at hl 1 rfl) ?_
        refine jkV (wr := []) (rnV (As := []) (rest := []) hx hb hml hown hE hK (hN _ _ hS) hP hD (v_TdropEmptyRows l D dA H.size (TbW dA tb u ++ (ws)) ta z (show z.cN ≤ 65536 by omega) (rsAll_m (fun _ hm => (List.mem_append_right _ hm)) (by rw [k4]; exact hrs)) (by rw [k1, k2, k3]; exact h1) (show z.rc ≤ 256 by omega)) (q0 := 0) rfl rfl w1437 w1436 w1438 w1439 w807 rfl rfl ⟨⟨by decide, by decide⟩, rfl⟩ ⟨(Nat.le_of_ble_eq_true rfl), (Nat.le_of_ble_eq_true rfl)⟩ rfl hl.1 rfl (Nat.le_of_ble_eq_true rfl) d_T_joinWithSingle_62 ⟨(Nat.le_of_ble_eq_true rfl), (Nat.le_of_ble_eq_true rfl)⟩) hP hD hS hA (fun u3 H locs hp9 hP hD hS => ?_)
        obtain ⟨y4, h9u⟩ : ∃ z9, z9 = u3 := ⟨_, rfl⟩
        subst h9u
        have hP : va_P D vwCl (TbW dA ta y4 ++ (TbW dA tb u ++ (ws))) H := hP
        have hD : va_D A (TbW dA ta y4 ++ (TbW dA tb u ++ (ws))) := hD
        have f_e_5 := hp9
        exact rfV hx hb hr hlk hS y4 (by rw [f_e_5, ez, show i = t.rc by omega]) hP hD (Nat.le_of_ble_eq_true rfl) (Nat.le_of_ble_eq_true rfl) d_T_joinWithSingle_65
      · have g1 := mt (nI_leI (a := z.rc) (b := i) (by omega) (by omega)).mpr g1
        have k2 : z.rc = t.rc := k2
        have k3 : z.cN = t.cN := k3
        have hu0 : 0 < u.rc := Nat.pos_of_ne_zero hu
        refine lv_iload_n hx hb d_T_joinWithSingle_24 rfl (lv_at hl 4 rfl) ?_
        refine lv_if_eq hx hb d_T_joinWithSingle_25 (tgt := 43) rfl (fun _ => ?_) (fun h9 => absurd (by decide) h9)
        refine lv_aload_n hx hb d_T_joinWithSingle_43 rfl (lv_at hl 1 rfl) ?_
        refine lv_iload_n hx hb d_T_joinWithSingle_44 rfl (lv_at hl 2 rfl) ?_
        refine lv_aload_n hx hb d_T_joinWithSingle_45 rfl (lv_at hl 1 rfl) ?_
        refine lv_iload hx hb d_T_joinWithSingle_46 (lv_at hl 0 rfl) ?_
        refine lv_aload_n hx hb d_T_joinWithSingle_48 rfl (lv_at hl 3 rfl) ?_
        refine lv_iconst (v := 0) hx hb d_T_joinWithSingle_49 (by decide) ?_
        refine lv_iload hx hb d_T_joinWithSingle_50 (lv_at hl 0 rfl) ?_
        refine jkV (wr := []) (rnV (As := [.int sg, .ref (ta 0), .int (nI i), .ref (tb 0), .int 0, .int (nI i)]) (rest := []) hx hb hml hown hE hK (hN _ _ hS) hP hD (v_TjoinRow_l l D dA H.size ws ta z tb u sg i 0 i hop (show z.cN ≤ 65536 by omega) hcM (show i < 256 from by omega) (show 0 < 256 from by omega) (show i < 256 from by omega) (by rw [k1, k3]; exact mul_le_of (show i < t.rc by omega) h1) (by rw [k1, k3]; exact mul_le_of (show i < t.rc by omega) h1) (by rw [k1, ← hw]; exact mul_le_of (show 0 < u.rc by omega) h3) (Nat.le_refl _)) (q0 := 0) rfl rfl w1441 w1440 w1442 w1443 w807 rfl rfl ⟨⟨by decide, by decide⟩, rfl⟩ ⟨(Nat.le_of_ble_eq_true rfl), (Nat.le_of_ble_eq_true rfl)⟩ rfl hl.1 rfl (Nat.le_of_ble_eq_true rfl) d_T_joinWithSingle_52 ⟨(Nat.le_of_ble_eq_true rfl), (Nat.le_of_ble_eq_true rfl)⟩) hP hD hS hA (fun u7 H locs hp9 hP hD hS => ?_)
        have hP : va_P D vwCl (TbW dA ta (TB.s_ce (TB.s_th z (va_up z.th i (jrW sg ((z.th i) &&& (u.th 0)) (fun w => z.ce (i * z.wi + w)) (fun w => u.ce (0 * u.wi + w)) z.ce (i * z.wi) z.wi).1)) ((jrW sg ((z.th i) &&& (u.th 0)) (fun w => z.ce (i * z.wi + w)) (fun w => u.ce (0 * u.wi + w)) z.ce (i * z.wi) z.wi).2)) ++ (TbW dA tb u ++ (ws))) H := hP
        have hD : va_D A (TbW dA ta (TB.s_ce (TB.s_th z (va_up z.th i (jrW sg ((z.th i) &&& (u.th 0)) (fun w => z.ce (i * z.wi + w)) (fun w => u.ce (0 * u.wi + w)) z.ce (i * z.wi) z.wi).1)) ((jrW sg ((z.th i) &&& (u.th 0)) (fun w => z.ce (i * z.wi + w)) (fun w => u.ce (0 * u.wi + w)) z.ce (i * z.wi) z.wi).2)) ++ (TbW dA tb u ++ (ws))) := hD
        refine lv_iinc (k := 0) (v := nI (i + 1)) hx hb d_T_joinWithSingle_55 hl rfl (iincN (i) 1 1 (by decide)) (by decide) rfl (fun ls hl => ?_)
        have hl : lv_has ls 5 [(4, .int (nI (i + 1))), (0, .ref (ta 0)), (1, .int sg), (2, .ref (tb 0)), (3, .int 0)] := hl
        refine lv_goto hx hb d_T_joinWithSingle_58 (tgt := 15) rfl ?_
        exact ih15 _ (by omega) (i + 1) (TB.s_ce (TB.s_th z (va_up z.th i (jrW sg ((z.th i) &&& (u.th 0)) (fun w => z.ce (i * z.wi + w)) (fun w => u.ce (0 * u.wi + w)) z.ce (i * z.wi) z.wi).1)) ((jrW sg ((z.th i) &&& (u.th 0)) (fun w => z.ce (i * z.wi + w)) (fun w => u.ce (0 * u.wi + w)) z.ce (i * z.wi) z.wi).2)) (by omega) (by rw [ez]; rfl) rfl H _ ls hP hD hS (lv_sub hl [0, 1, 2, 3, 4] rfl)
  exact L15 _ 0 t (Nat.zero_le _) rfl rfl H _ ls hP hD hS (lv_sub hl [0, 1, 2, 3, 4] rfl)
theorem d_T_joinWithSingle_28 : decode prog_11_method_18_code 28 = .ok (.aload_n 0, 1) := by decide +kernel
theorem d_T_joinWithSingle_29 : decode prog_11_method_18_code 29 = .ok (.iload_n 1, 1) := by decide +kernel
theorem d_T_joinWithSingle_30 : decode prog_11_method_18_code 30 = .ok (.aload_n 2, 1) := by decide +kernel
theorem d_T_joinWithSingle_31 : decode prog_11_method_18_code 31 = .ok (.iconst 0, 1) := by decide +kernel
theorem d_T_joinWithSingle_32 : decode prog_11_method_18_code 32 = .ok (.aload_n 0, 1) := by decide +kernel
theorem d_T_joinWithSingle_33 : decode prog_11_method_18_code 33 = .ok (.iload 4, 2) := by decide +kernel
theorem d_T_joinWithSingle_35 : decode prog_11_method_18_code 35 = .ok (.iload 4, 2) := by decide +kernel
theorem d_T_joinWithSingle_37 : decode prog_11_method_18_code 37 = .ok (.invokevirtual 93, 3) := by decide +kernel
theorem d_T_joinWithSingle_40 : decode prog_11_method_18_code 40 = .ok (.goto 15, 3) := by decide +kernel
set_option maxHeartbeats 4000000 in
set_option maxRecDepth 100000 in
theorem v_TjoinWithSingle_r (l : Launch) (D : va_G) (dA : Nat → ClassId) (sz : Nat) (ws : va_W) (ta : Nat → Nat) (t : TB) (tb : Nat → Nat) (u : TB) (sg : Int32) (hop : isOp sg) (hcN : t.cN ≤ 65536) (hcM : u.cN ≤ 65536) (h1 : t.rc * t.wi ≤ t.cN) (h2 : t.rc ≤ 256) (hw : u.wi = t.wi) (h3 : u.rc * u.wi ≤ u.cN) (h4 : u.rc ≤ 256) (hrs : rsAll dA ws t.rs) (hu : ¬ u.rc = 0) : Met l ⟨"SeriesVault$Table", "joinWithSingle", "(ILSeriesVault$Table;Z)V"⟩ [Cond.code ⟨"SeriesVault$Table", "joinWithSingle", "(ILSeriesVault$Table;Z)V"⟩ prog_11_method_18_code 5 none] { frames := 3, cells := 0, slots := 0, locals := 84 } (pC D dA [.ref (ta 0), .int sg, .ref (tb 0), .int 1] (TbW dA ta t ++ (TbW dA tb u ++ (ws))) sz) (va_Qv (fun (u9 : TB) => u9 = (jsR sg t u t.rc).de) (fun (u9 : TB) t9 => bW D (va_A (TbW dA ta t ++ (TbW dA tb u ++ (ws))) sz) (TbW dA ta u9 ++ (TbW dA tb u ++ (ws))) t9) (va_A (TbW dA ta t ++ (TbW dA tb u ++ (ws))) sz)) 0 0 (va_A (TbW dA ta t ++ (TbW dA tb u ++ (ws))) sz) := by
  refine mkC (y := ⟨"SeriesVault$Table", "joinWithSingle", "(ILSeriesVault$Table;Z)V"⟩) (cc := prog_11_method_18_code) (maxL := 5) (av := [.ref (ta 0), .int sg, .ref (tb 0), .int 1]) (ws := TbW dA ta t ++ (TbW dA tb u ++ (ws))) (sz := sz) (Qc := fun A => va_Qv (fun (u9 : TB) => u9 = (jsR sg t u t.rc).de) (fun (u9 : TB) t9 => bW D A (TbW dA ta u9 ++ (TbW dA tb u ++ (ws))) t9) A) (by decide) (Nat.le_of_ble_eq_true rfl) ?_
  intro A p e s m below meth c ls hsz hB
  obtain ⟨hx, hb, hr, hml, hown, hin, hlk, hE, hK, hP, hD, hS, hA, hN, hl⟩ := hB
  have hown : s.vm.findClass "SeriesVault$Table" = some m.cls := hown
  have hl : lv_has ls 5 [(0, .ref (ta 0)), (1, .int sg), (2, .ref (tb 0)), (3, .int 1)] := hl
  obtain ⟨H, hH⟩ : ∃ z, z = s.heap := ⟨_, rfl⟩
  have hP : va_P D vwCl (TbW dA ta t ++ (TbW dA tb u ++ (ws))) H := by rw [hH]; exact hP
  have hS : va_S A s.heap H [] := by rw [hH]; exact hS
  rw [← hH]
  refine lv_aload_n hx hb d_T_joinWithSingle_0 rfl (lv_at hl 2 rfl) ?_
  refine gF (v := .int (nI u.rc)) hx hb hown hE hK hP 5 rfl rfl layT 3 (by decide) w1368 rfl d_T_joinWithSingle_1 ?_
  refine lv_if_ne hx hb d_T_joinWithSingle_4 (tgt := 12) rfl (fun _ => ?_) (fun h9 => absurd h9 (mt (nI_eq (a := u.rc) (b := 0) (by omega) (by omega)).mp hu))
  refine lv_iconst (v := 0) hx hb d_T_joinWithSingle_12 (by decide) ?_
  refine lv_istore hx hb d_T_joinWithSingle_13 hl (by decide) rfl (fun ls hl => ?_)
  have hl : lv_has ls 5 [(4, .int 0), (0, .ref (ta 0)), (1, .int sg), (2, .ref (tb 0)), (3, .int 1)] := hl
  have L15 : ∀ (k9 : Nat) (i : Nat) (z : TB) (i1 : i ≤ t.rc) (ez : z = jsR sg t u i) (hk9 : t.rc - i = k9), ∀ (H : Heap) (locs : List Loc) (ls : Array Slot) (hP : va_P D vwCl (TbW dA ta z ++ (TbW dA tb u ++ (ws))) H) (hD : va_D A (TbW dA ta z ++ (TbW dA tb u ++ (ws)))) (hS : va_S A s.heap H locs) (hl : lv_has ls 5 [(4, .int (nI i)), (0, .ref (ta 0)), (1, .int sg), (2, .ref (tb 0)), (3, .int 1)]), W p l e ({ frames := 3, cells := 0, slots := 0, locals := 84 } : Room) s m ([.ref (ta 0), .int sg, .ref (tb 0), .int 1] : List Value).toArray below meth c H locs 0 0 (MQ below (va_Qv (fun (u9 : TB) => u9 = (jsR sg t u t.rc).de) (fun (u9 : TB) t9 => bW D A (TbW dA ta u9 ++ (TbW dA tb u ++ (ws))) t9) A) ([.ref (ta 0), .int sg, .ref (tb 0), .int 1] : List Value).toArray s 0 0 A) (F0 m 15 ls []) := by
    intro k9
    induction k9 using Nat.strongRecOn with
    | ind k9 ih15 =>
      intro i z i1 ez hk9 H locs ls hP hD hS hl
      have zk := jsR_k sg t u i
      rw [← ez] at zk
      obtain ⟨k1, k2, k3, k4, k5⟩ := zk
      refine lv_iload hx hb d_T_joinWithSingle_15 (lv_at hl 0 rfl) ?_
      refine lv_aload_n hx hb d_T_joinWithSingle_17 rfl (lv_at hl 1 rfl) ?_
      refine gF (v := .int (nI z.rc)) hx hb hown hE hK hP 0 rfl rfl layT 3 (by decide) w1368 rfl d_T_joinWithSingle_18 ?_
      refine lv_icmp_ge hx hb d_T_joinWithSingle_21 (tgt := 61) rfl (fun g1 => ?_) (fun g1 => ?_)
      · have g1 := (nI_leI (a := z.rc) (b := i) (by omega) (by omega)).mp g1
        have k2 : z.rc = t.rc := k2
        have k3 : z.cN = t.cN := k3
        refine lv_aload_n hx hb d_T_joinWithSingle_61 rfl (lv_at hl 1 rfl) ?_
        refine jkV (wr := []) (rnV (As := []) (rest := []) hx hb hml hown hE hK (hN _ _ hS) hP hD (v_TdropEmptyRows l D dA H.size (TbW dA tb u ++ (ws)) ta z (show z.cN ≤ 65536 by omega) (rsAll_m (fun _ hm => (List.mem_append_right _ hm)) (by rw [k4]; exact hrs)) (by rw [k1, k2, k3]; exact h1) (show z.rc ≤ 256 by omega)) (q0 := 0) rfl rfl w1437 w1436 w1438 w1439 w807 rfl rfl ⟨⟨by decide, by decide⟩, rfl⟩ ⟨(Nat.le_of_ble_eq_true rfl), (Nat.le_of_ble_eq_true rfl)⟩ rfl hl.1 rfl (Nat.le_of_ble_eq_true rfl) d_T_joinWithSingle_62 ⟨(Nat.le_of_ble_eq_true rfl), (Nat.le_of_ble_eq_true rfl)⟩) hP hD hS hA (fun u3 H locs hp9 hP hD hS => ?_)
        obtain ⟨y4, h9u⟩ : ∃ z9, z9 = u3 := ⟨_, rfl⟩
        subst h9u
        have hP : va_P D vwCl (TbW dA ta y4 ++ (TbW dA tb u ++ (ws))) H := hP
        have hD : va_D A (TbW dA ta y4 ++ (TbW dA tb u ++ (ws))) := hD
        have f_e_5 := hp9
        exact rfV hx hb hr hlk hS y4 (by rw [f_e_5, ez, show i = t.rc by omega]) hP hD (Nat.le_of_ble_eq_true rfl) (Nat.le_of_ble_eq_true rfl) d_T_joinWithSingle_65
      · have g1 := mt (nI_leI (a := z.rc) (b := i) (by omega) (by omega)).mpr g1
        have k2 : z.rc = t.rc := k2
        have k3 : z.cN = t.cN := k3
        have hu0 : 0 < u.rc := Nat.pos_of_ne_zero hu
        refine lv_iload_n hx hb d_T_joinWithSingle_24 rfl (lv_at hl 4 rfl) ?_
        refine lv_if_eq hx hb d_T_joinWithSingle_25 (tgt := 43) rfl (fun h9 => absurd h9 (by decide)) (fun _ => ?_)
        refine lv_aload_n hx hb d_T_joinWithSingle_28 rfl (lv_at hl 1 rfl) ?_
        refine lv_iload_n hx hb d_T_joinWithSingle_29 rfl (lv_at hl 2 rfl) ?_
        refine lv_aload_n hx hb d_T_joinWithSingle_30 rfl (lv_at hl 3 rfl) ?_
        refine lv_iconst (v := 0) hx hb d_T_joinWithSingle_31 (by decide) ?_
        refine lv_aload_n hx hb d_T_joinWithSingle_32 rfl (lv_at hl 1 rfl) ?_
        refine lv_iload hx hb d_T_joinWithSingle_33 (lv_at hl 0 rfl) ?_
        refine lv_iload hx hb d_T_joinWithSingle_35 (lv_at hl 0 rfl) ?_
        refine jkV (wr := []) (rnV (As := [.int sg, .ref (tb 0), .int 0, .ref (ta 0), .int (nI i), .int (nI i)]) (rest := []) hx hb hml hown hE hK (hN _ _ hS) hP hD (v_TjoinRow_r l D dA H.size ws ta z tb u sg 0 i i hop (show z.cN ≤ 65536 by omega) hcM (show 0 < 256 from by omega) (show i < 256 from by omega) (show i < 256 from by omega) (by rw [k1, k3]; exact mul_le_of (show i < t.rc by omega) h1) (by rw [k1, ← hw]; exact mul_le_of (show 0 < u.rc by omega) h3) (by rw [k1, k3]; exact mul_le_of (show i < t.rc by omega) h1) (Nat.le_refl _)) (q0 := 0) rfl rfl w1441 w1440 w1442 w1443 w807 rfl rfl ⟨⟨by decide, by decide⟩, rfl⟩ ⟨(Nat.le_of_ble_eq_true rfl), (Nat.le_of_ble_eq_true rfl)⟩ rfl hl.1 rfl (Nat.le_of_ble_eq_true rfl) d_T_joinWithSingle_37 ⟨(Nat.le_of_ble_eq_true rfl), (Nat.le_of_ble_eq_true rfl)⟩) hP hD hS hA (fun u7 H locs hp9 hP hD hS => ?_)
        have hP : va_P D vwCl (TbW dA ta (TB.s_ce (TB.s_th z (va_up z.th i (jrW sg ((u.th 0) &&& (z.th i)) (fun w => u.ce (0 * u.wi + w)) (fun w => z.ce (i * z.wi + w)) z.ce (i * z.wi) z.wi).1)) ((jrW sg ((u.th 0) &&& (z.th i)) (fun w => u.ce (0 * u.wi + w)) (fun w => z.ce (i * z.wi + w)) z.ce (i * z.wi) z.wi).2)) ++ (TbW dA tb u ++ (ws))) H := hP
        have hD : va_D A (TbW dA ta (TB.s_ce (TB.s_th z (va_up z.th i (jrW sg ((u.th 0) &&& (z.th i)) (fun w => u.ce (0 * u.wi + w)) (fun w => z.ce (i * z.wi + w)) z.ce (i * z.wi) z.wi).1)) ((jrW sg ((u.th 0) &&& (z.th i)) (fun w => u.ce (0 * u.wi + w)) (fun w => z.ce (i * z.wi + w)) z.ce (i * z.wi) z.wi).2)) ++ (TbW dA tb u ++ (ws))) := hD
        refine lv_goto hx hb d_T_joinWithSingle_40 (tgt := 55) rfl ?_
        refine lv_iinc (k := 0) (v := nI (i + 1)) hx hb d_T_joinWithSingle_55 hl rfl (iincN (i) 1 1 (by decide)) (by decide) rfl (fun ls hl => ?_)
        have hl : lv_has ls 5 [(4, .int (nI (i + 1))), (0, .ref (ta 0)), (1, .int sg), (2, .ref (tb 0)), (3, .int 1)] := hl
        refine lv_goto hx hb d_T_joinWithSingle_58 (tgt := 15) rfl ?_
        exact ih15 _ (by omega) (i + 1) (TB.s_ce (TB.s_th z (va_up z.th i (jrW sg ((u.th 0) &&& (z.th i)) (fun w => u.ce (0 * u.wi + w)) (fun w => z.ce (i * z.wi + w)) z.ce (i * z.wi) z.wi).1)) ((jrW sg ((u.th 0) &&& (z.th i)) (fun w => u.ce (0 * u.wi + w)) (fun w => z.ce (i * z.wi + w)) z.ce (i * z.wi) z.wi).2)) (by omega) (by rw [ez]; rfl) rfl H _ ls hP hD hS (lv_sub hl [0, 1, 2, 3, 4] rfl)
  exact L15 _ 0 t (Nat.zero_le _) rfl rfl H _ ls hP hD hS (lv_sub hl [0, 1, 2, 3, 4] rfl)
theorem d_T_joinWithSingle_7 : decode prog_11_method_18_code 7 = .ok (.aload_n 0, 1) := by decide +kernel
theorem d_T_joinWithSingle_8 : decode prog_11_method_18_code 8 = .ok (.iconst 0, 1) := by decide +kernel
theorem d_T_joinWithSingle_9 : decode prog_11_method_18_code 9 = .ok (.putfield 37, 3) := by decide +kernel
set_option maxHeartbeats 4000000 in
set_option maxRecDepth 100000 in
theorem v_TjoinWithSingle_0 (l : Launch) (D : va_G) (dA : Nat → ClassId) (sz : Nat) (ws : va_W) (ta : Nat → Nat) (t : TB) (tb : Nat → Nat) (u : TB) (sg : Int32) (le : Bool) (hcN : t.cN ≤ 65536) (hu : u.rc = 0) (hrs : rsAll dA ws t.rs) : Met l ⟨"SeriesVault$Table", "joinWithSingle", "(ILSeriesVault$Table;Z)V"⟩ [Cond.code ⟨"SeriesVault$Table", "joinWithSingle", "(ILSeriesVault$Table;Z)V"⟩ prog_11_method_18_code 5 none] { frames := 3, cells := 0, slots := 0, locals := 84 } (pC D dA [.ref (ta 0), .int sg, .ref (tb 0), .int (bI le)] (TbW dA ta t ++ (TbW dA tb u ++ (ws))) sz) (va_Qv (fun (u9 : TB) => u9 = TB.de (TB.s_rc t 0)) (fun (u9 : TB) t9 => bW D (va_A (TbW dA ta t ++ (TbW dA tb u ++ (ws))) sz) (TbW dA ta u9 ++ (TbW dA tb u ++ (ws))) t9) (va_A (TbW dA ta t ++ (TbW dA tb u ++ (ws))) sz)) 0 0 (va_A (TbW dA ta t ++ (TbW dA tb u ++ (ws))) sz) := by
  refine mkC (y := ⟨"SeriesVault$Table", "joinWithSingle", "(ILSeriesVault$Table;Z)V"⟩) (cc := prog_11_method_18_code) (maxL := 5) (av := [.ref (ta 0), .int sg, .ref (tb 0), .int (bI le)]) (ws := TbW dA ta t ++ (TbW dA tb u ++ (ws))) (sz := sz) (Qc := fun A => va_Qv (fun (u9 : TB) => u9 = TB.de (TB.s_rc t 0)) (fun (u9 : TB) t9 => bW D A (TbW dA ta u9 ++ (TbW dA tb u ++ (ws))) t9) A) (by decide) (Nat.le_of_ble_eq_true rfl) ?_
  intro A p e s m below meth c ls hsz hB
  obtain ⟨hx, hb, hr, hml, hown, hin, hlk, hE, hK, hP, hD, hS, hA, hN, hl⟩ := hB
  have hown : s.vm.findClass "SeriesVault$Table" = some m.cls := hown
  have hl : lv_has ls 5 [(0, .ref (ta 0)), (1, .int sg), (2, .ref (tb 0)), (3, .int (bI le))] := hl
  obtain ⟨H, hH⟩ : ∃ z, z = s.heap := ⟨_, rfl⟩
  have hP : va_P D vwCl (TbW dA ta t ++ (TbW dA tb u ++ (ws))) H := by rw [hH]; exact hP
  have hS : va_S A s.heap H [] := by rw [hH]; exact hS
  rw [← hH]
  refine lv_aload_n hx hb d_T_joinWithSingle_0 rfl (lv_at hl 2 rfl) ?_
  refine gF (v := .int (nI u.rc)) hx hb hown hE hK hP 5 rfl rfl layT 3 (by decide) w1368 rfl d_T_joinWithSingle_1 ?_
  refine lv_if_ne hx hb d_T_joinWithSingle_4 (tgt := 12) rfl (fun h9 => absurd ((nI_eq (a := u.rc) (b := 0) (by omega) (by omega)).mpr hu) h9) (fun _ => ?_)
  refine lv_aload_n hx hb d_T_joinWithSingle_7 rfl (lv_at hl 0 rfl) ?_
  refine lv_iconst (v := 0) hx hb d_T_joinWithSingle_8 (by decide) ?_
  refine pF (v := .int (nI 0)) hx hb hown hE hK hP hD hS 0 rfl rfl layT tyT tokT nmT 3 (by decide) w1368 rfl rfl rfl (Nat.le_of_ble_eq_true rfl) d_T_joinWithSingle_9 (fun H locs hP hD hS => ?_)
  have hP : va_P D vwCl (TbW dA ta (TB.s_rc t 0) ++ (TbW dA tb u ++ (ws))) H := hP
  have hD : va_D A (TbW dA ta (TB.s_rc t 0) ++ (TbW dA tb u ++ (ws))) := hD
  refine lv_iconst (v := 0) hx hb d_T_joinWithSingle_12 (by decide) ?_
  refine lv_istore hx hb d_T_joinWithSingle_13 hl (by decide) rfl (fun ls hl => ?_)
  have hl : lv_has ls 5 [(4, .int 0), (0, .ref (ta 0)), (1, .int sg), (2, .ref (tb 0)), (3, .int (bI le))] := hl
  refine lv_iload hx hb d_T_joinWithSingle_15 (lv_at hl 0 rfl) ?_
  refine lv_aload_n hx hb d_T_joinWithSingle_17 rfl (lv_at hl 1 rfl) ?_
  refine gF (v := .int 0) hx hb hown hE hK hP 0 rfl rfl layT 3 (by decide) w1368 rfl d_T_joinWithSingle_18 ?_
  refine lv_icmp_ge hx hb d_T_joinWithSingle_21 (tgt := 61) rfl (fun _ => ?_) (fun h9 => absurd (by decide) h9)
  refine lv_aload_n hx hb d_T_joinWithSingle_61 rfl (lv_at hl 1 rfl) ?_
  refine jkV (wr := []) (rnV (As := []) (rest := []) hx hb hml hown hE hK (hN _ _ hS) hP hD (v_TdropEmptyRows l D dA H.size (TbW dA tb u ++ (ws)) ta (TB.s_rc t 0) hcN (rsAll_m (fun _ hm => (List.mem_append_right _ hm)) hrs) (show 0 * t.wi ≤ t.cN by rw [Nat.zero_mul]; exact Nat.zero_le _) (show 0 ≤ 256 from by omega)) (q0 := 0) rfl rfl w1437 w1436 w1438 w1439 w807 rfl rfl ⟨⟨by decide, by decide⟩, rfl⟩ ⟨(Nat.le_of_ble_eq_true rfl), (Nat.le_of_ble_eq_true rfl)⟩ rfl hl.1 rfl (Nat.le_of_ble_eq_true rfl) d_T_joinWithSingle_62 ⟨(Nat.le_of_ble_eq_true rfl), (Nat.le_of_ble_eq_true rfl)⟩) hP hD hS hA (fun u2 H locs hp9 hP hD hS => ?_)
  obtain ⟨y3, h9u⟩ : ∃ z9, z9 = u2 := ⟨_, rfl⟩
  subst h9u
  have hP : va_P D vwCl (TbW dA ta y3 ++ (TbW dA tb u ++ (ws))) H := hP
  have hD : va_D A (TbW dA ta y3 ++ (TbW dA tb u ++ (ws))) := hD
  have f_e_4 := hp9
  exact rfV hx hb hr hlk hS y3 f_e_4 hP hD (Nat.le_of_ble_eq_true rfl) (Nat.le_of_ble_eq_true rfl) d_T_joinWithSingle_65
theorem d_T_rowText_0 : decode prog_11_method_12_code 0 = .ok (.aload_n 0, 1) := by decide +kernel
theorem d_T_rowText_1 : decode prog_11_method_12_code 1 = .ok (.getfield 19, 3) := by decide +kernel
theorem d_T_rowText_4 : decode prog_11_method_12_code 4 = .ok (.iload_n 1, 1) := by decide +kernel
theorem d_T_rowText_5 : decode prog_11_method_12_code 5 = .ok (.aaload, 1) := by decide +kernel
theorem d_T_rowText_6 : decode prog_11_method_12_code 6 = .ok (.aload_n 0, 1) := by decide +kernel
theorem d_T_rowText_7 : decode prog_11_method_12_code 7 = .ok (.getfield 11, 3) := by decide +kernel
theorem d_T_rowText_10 : decode prog_11_method_12_code 10 = .ok (.iload_n 2, 1) := by decide +kernel
theorem d_T_rowText_11 : decode prog_11_method_12_code 11 = .ok (.aaload, 1) := by decide +kernel
theorem d_T_rowText_12 : decode prog_11_method_12_code 12 = .ok (.invokevirtual 59, 3) := by decide +kernel
theorem d_T_rowText_15 : decode prog_11_method_12_code 15 = .ok (.areturn, 1) := by decide +kernel
set_option maxHeartbeats 4000000 in
set_option maxRecDepth 100000 in
theorem v_TrowText (l : Launch) (D : va_G) (dA : Nat → ClassId) (sz : Nat) (ws : va_W) (ta : Nat → Nat) (t : TB) (NL : Nat → List Int32) (RS : Nat → List LB) (r : Nat) (k : Nat) (hnm : nmOk dA ws t.nm t.nc NL) (hnc : t.nc ≤ 6) (hrs : rsOk dA ws t.rs t.rc RS) (h1 : t.rc ≤ 256) (h2 : r < t.rc) (h3 : k < t.nc) : Met l ⟨"SeriesVault$Table", "rowText", "(II)LSeriesVault$Word;"⟩ [Cond.code ⟨"SeriesVault$Table", "rowText", "(II)LSeriesVault$Word;"⟩ prog_11_method_12_code 3 (some (FieldType.object "SeriesVault$Word"))] { frames := 3, cells := 0, slots := 0, locals := 44 } (pC D dA [.ref (ta 0), .int (nI r), .int (nI k)] (TbW dA ta t ++ (ws)) sz) (va_Qr (fun (_ : Unit) => True) (fun (u9 : Unit) (r9 : Nat) t9 => (isWo dA ws r9 (valS (RS r) (NL k))) ∧ bW D (va_A (TbW dA ta t ++ (ws)) sz) (TbW dA ta t ++ (ws)) t9) (va_A (TbW dA ta t ++ (ws)) sz)) 0 0 (va_A (TbW dA ta t ++ (ws)) sz) := by
  refine mkC (y := ⟨"SeriesVault$Table", "rowText", "(II)LSeriesVault$Word;"⟩) (cc := prog_11_method_12_code) (maxL := 3) (av := [.ref (ta 0), .int (nI r), .int (nI k)]) (ws := TbW dA ta t ++ (ws)) (sz := sz) (Qc := fun A => va_Qr (fun (_ : Unit) => True) (fun (u9 : Unit) (r9 : Nat) t9 => (isWo dA ws r9 (valS (RS r) (NL k))) ∧ bW D A (TbW dA ta t ++ (ws)) t9) A) (by decide) (Nat.le_of_ble_eq_true rfl) ?_
  intro A p e s m below meth c ls hsz hB
  obtain ⟨hx, hb, hr, hml, hown, hin, hlk, hE, hK, hP, hD, hS, hA, hN, hl⟩ := hB
  have hown : s.vm.findClass "SeriesVault$Table" = some m.cls := hown
  have hl : lv_has ls 3 [(0, .ref (ta 0)), (1, .int (nI r)), (2, .int (nI k))] := hl
  obtain ⟨H, hH⟩ : ∃ z, z = s.heap := ⟨_, rfl⟩
  have hP : va_P D vwCl (TbW dA ta t ++ (ws)) H := by rw [hH]; exact hP
  have hS : va_S A s.heap H [] := by rw [hH]; exact hS
  rw [← hH]
  refine lv_aload_n hx hb d_T_rowText_0 rfl (lv_at hl 0 rfl) ?_
  refine gF (v := .ref (ta 2)) hx hb hown hE hK hP 0 rfl rfl layT 4 (by decide) w787 rfl d_T_rowText_1 ?_
  obtain ⟨a1, er1, hs1, ho1⟩ := hrs r (by omega)
  have hs1c := hs1
  obtain ⟨na1, va1, no1, tx1, fn1, fv1, j1, -⟩ := hs1c
  obtain ⟨p1, ep1, wp1, lp1⟩ := hnm k h3
  refine lv_iload_n hx hb d_T_rowText_4 rfl (lv_at hl 1 rfl) ?_
  refine nqld (f := t.rs) (n := 256) hx hb hK hP (2) 5 rfl rfl (r) (by omega) (by decide) er1 d_T_rowText_5 ?_
  refine lv_aload_n hx hb d_T_rowText_6 rfl (lv_at hl 0 rfl) ?_
  refine gF (v := .ref (ta 1)) hx hb hown hE hK hP 0 rfl rfl layT 0 (by decide) w784 rfl d_T_rowText_7 ?_
  refine lv_iload_n hx hb d_T_rowText_10 rfl (lv_at hl 2 rfl) ?_
  refine nqld (f := t.nm) (n := 6) hx hb hK hP (1) 6 rfl rfl (k) (by omega) (by decide) ep1 d_T_rowText_11 ?_
  obtain ⟨qp1, ep2⟩ := List.getElem?_of_mem (show ((a1, .inr (11, [.ref na1, .ref va1, .ref no1, .ref tx1])) : Nat × va_E) ∈ TbW dA ta t ++ (ws) from (List.mem_append_right _ j1))
  refine jkR (wr := []) (rnV (As := [.ref p1]) (rest := []) hx hb hml hown hE hK (hN _ _ hS) hP hD (v_SvalueOf2 l D dA H.size (TbW dA ta t ++ (ws)) ws a1 (RS r) p1 (NL k) (fun _ hm => (List.mem_append_right _ hm)) hs1 ho1 (isWo_m (fun _ hm => (List.mem_append_right _ hm)) wp1) lp1) (q0 := qp1) ep2 rfl w1378 w1377 w1379 w1380 w1288 rfl rfl ⟨⟨by decide, by decide⟩, rfl⟩ ⟨(Nat.le_of_ble_eq_true rfl), (Nat.le_of_ble_eq_true rfl)⟩ rfl hl.1 rfl (Nat.le_of_ble_eq_true rfl) d_T_rowText_12 ⟨(Nat.le_of_ble_eq_true rfl), (Nat.le_of_ble_eq_true rfl)⟩) hP hD hS hA (fun u4 r3 H locs hp9 hP hD hS => ?_)
  have hP : va_P D vwCl (TbW dA ta t ++ (ws)) H := hP
  have hD : va_D A (TbW dA ta t ++ (ws)) := hD
  have f_w_5 := hp9
  exact rkR hx hb hr (Or.inl ⟨_, rfl⟩) hlk hS () f_w_5 hP hD (Nat.le_of_ble_eq_true rfl) (Nat.le_of_ble_eq_true rfl) d_T_rowText_15
