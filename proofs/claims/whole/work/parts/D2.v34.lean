/-! Rows of a table by their texts. -/
def rsOk (dA : Nat → ClassId) (ws : va_W) (rs : Nat → Option Nat) (n : Nat) (RS : Nat → List LB) : Prop := ∀ q, q < n → ∃ a : Nat, rs q = some a ∧ isSer dA ws a (RS q) ∧ serOk (RS q)
theorem rsOk_m {dA : Nat → ClassId} {ws ws' : va_W} {rs : Nat → Option Nat} {n : Nat} {RS : Nat → List LB} (hs : ∀ c, c ∈ ws → c ∈ ws') (h : rsOk dA ws rs n RS) : rsOk dA ws' rs n RS := by
  intro k hk
  obtain ⟨a, h1, h2, h3⟩ := h k hk
  exact ⟨a, h1, isSer_m hs h2, h3⟩
theorem rsAll_m {dA : Nat → ClassId} {ws ws' : va_W} {rs : Nat → Option Nat} (hs : ∀ c, c ∈ ws → c ∈ ws') (h : rsAll dA ws rs) : rsAll dA ws' rs := by
  intro q a hq
  obtain ⟨S, h1, h2⟩ := h q a hq
  exact ⟨S, isSer_m hs h1, h2⟩
def ltT (NL : Nat → List Int32) (n : Nat) (RS : Nat → List LB) (S : List LB) (q : Nat) : Bool := !decide (0 ≤ cmT NL n (RS q) S)
def plT (NL : Nat → List Int32) (n rc : Nat) (RS : Nat → List LB) (S : List LB) : Nat := bsG (ltT NL n RS S) rc 9 256 0
section BS
variable {lt : Nat → Bool} {rc f st b : Nat}
theorem bs_y (hf : 0 < f) (h1 : b + st ≤ rc) (h2 : lt (b + st - 1) = true) : bsG lt rc f st b = bsG lt rc (f - 1) (st / 2) (b + st) := by
  obtain ⟨f, rfl⟩ : ∃ g, f = g + 1 := ⟨f - 1, by omega⟩
  show bsG lt rc f (st / 2) (if _ then _ else _) = _
  rw [if_pos ⟨h1, h2⟩]; rfl
theorem bs_n1 (hf : 0 < f) (h1 : rc < b + st) : bsG lt rc f st b = bsG lt rc (f - 1) (st / 2) b := by
  obtain ⟨f, rfl⟩ : ∃ g, f = g + 1 := ⟨f - 1, by omega⟩
  show bsG lt rc f (st / 2) (if _ then _ else _) = _
  rw [if_neg (fun h => by omega)]; rfl
theorem bs_n2 (hf : 0 < f) (h2 : lt (b + st - 1) = false) : bsG lt rc f st b = bsG lt rc (f - 1) (st / 2) b := by
  obtain ⟨f, rfl⟩ : ∃ g, f = g + 1 := ⟨f - 1, by omega⟩
  show bsG lt rc f (st / 2) (if _ then _ else _) = _
  rw [if_neg (fun h => by rw [h2] at h; exact absurd h.2 (by decide))]; rfl
theorem hp_f (h : st = 2 ^ f / 2) (h0 : ¬ st ≤ 0) : 0 < f := by
  cases f with
  | zero => exact absurd (h ▸ (by decide : 2 ^ 0 / 2 ≤ 0)) h0
  | succ f => omega
theorem hp_s (h : st = 2 ^ f / 2) (h0 : ¬ st ≤ 0) : st / 2 = 2 ^ (f - 1) / 2 := by
  obtain ⟨f, rfl⟩ : ∃ g, f = g + 1 := ⟨f - 1, by have := hp_f h h0; omega⟩
  rw [h, Nat.pow_succ, Nat.mul_div_cancel _ (by decide : 0 < 2)]; rfl
theorem hp_z (h : st = 2 ^ f / 2) (h0 : st ≤ 0) : f = 0 := by
  cases f with
  | zero => rfl
  | succ f =>
    rw [Nat.pow_succ, Nat.mul_div_cancel _ (by decide : 0 < 2)] at h
    have := Nat.two_pow_pos f
    omega
end BS
def roT (NL : Nat → List Int32) (n rc : Nat) (RS : Nat → List LB) (S : List LB) : Int32 := if plT NL n rc RS S < rc ∧ cmT NL n (RS (plT NL n rc RS S)) S = 0 then nI (plT NL n rc RS S) else -1
def shF (rs : Nat → Option Nat) (i n : Nat) : Nat → Option Nat := fun q => if i < q ∧ q ≤ n then rs (q - 1) else rs q
theorem shF_0 (rs : Nat → Option Nat) (n : Nat) : shF rs n n = rs := by
  funext q; unfold shF; rw [if_neg (by omega)]
theorem shF_at {rs : Nat → Option Nat} {i n q : Nat} (h : q ≤ i) : shF rs i n q = rs q := by
  unfold shF; rw [if_neg (by omega)]
theorem shF_s {rs : Nat → Option Nat} {i n : Nat} {o : Option Nat} (h : 0 < i) (hn : i ≤ n) (ho : rs (i - 1) = o) : va_up (shF rs i n) i o = shF rs (i - 1) n := by
  subst ho
  funext q
  unfold va_up shF
  by_cases e : q = i
  · subst e; rw [if_pos rfl, if_pos (by omega)]
  · rw [if_neg e]
    by_cases e2 : i < q ∧ q ≤ n
    · rw [if_pos e2, if_pos (by omega)]
    · rw [if_neg e2, if_neg (by omega)]
def TB.adR (t : TB) (p a : Nat) : TB := TB.s_rc (TB.s_rs t (va_up (shF t.rs p t.rc) p (some a))) (t.rc + 1)
def adT (NL : Nat → List Int32) (t : TB) (RS : Nat → List LB) (S : List LB) (a : Nat) : TB := if t.rc = 256 ∨ (plT NL t.nc t.rc RS S < t.rc ∧ cmT NL t.nc (RS (plT NL t.nc t.rc RS S)) S = 0) then t else t.adR (plT NL t.nc t.rc RS S) a
/-- a number's table -/
def TB.pt (t : TB) (r w : Nat) (v : Int64) : TB := TB.s_ce (TB.s_th t (va_up t.th r (t.th r ||| bitL w))) (va_up t.ce (r * t.wi + w) v)
def mkG (t : TB) (v : Int64) : Nat → TB
  | 0 => t
  | k + 1 => (mkG t v k).pt 0 k v
theorem mkG_k (t : TB) (v : Int64) : ∀ k, (mkG t v k).wi = t.wi ∧ (mkG t v k).rc = t.rc ∧ (mkG t v k).cN = t.cN ∧ (mkG t v k).cA = t.cA
  | 0 => ⟨rfl, rfl, rfl, rfl⟩
  | k + 1 => mkG_k t v k
def TB.cl (t : TB) : TB := TB.s_ce (TB.s_th t (filG t.th 0 0 t.rc)) (filG t.ce 0 0 (t.rc * t.wi))
def TB.num (t : TB) (v : Int64) (n : Nat) : TB := mkG (TB.cl (TB.s_rc (TB.s_wi (TB.s_nc t 0) n) 1)) v n
theorem d_T_placeOf_0 : decode prog_11_method_4_code 0 = .ok (.iconst 0, 1) := by decide +kernel
theorem d_T_placeOf_1 : decode prog_11_method_4_code 1 = .ok (.istore_n 2, 1) := by decide +kernel
theorem d_T_placeOf_2 : decode prog_11_method_4_code 2 = .ok (.sipush 256, 3) := by decide +kernel
theorem d_T_placeOf_5 : decode prog_11_method_4_code 5 = .ok (.istore_n 3, 1) := by decide +kernel
theorem d_T_placeOf_6 : decode prog_11_method_4_code 6 = .ok (.iload_n 3, 1) := by decide +kernel
theorem d_T_placeOf_7 : decode prog_11_method_4_code 7 = .ok (.ifCond .le 44, 3) := by decide +kernel
theorem d_T_placeOf_51 : decode prog_11_method_4_code 51 = .ok (.iload_n 2, 1) := by decide +kernel
theorem d_T_placeOf_52 : decode prog_11_method_4_code 52 = .ok (.ireturn, 1) := by decide +kernel
theorem d_T_placeOf_10 : decode prog_11_method_4_code 10 = .ok (.iload_n 2, 1) := by decide +kernel
theorem d_T_placeOf_11 : decode prog_11_method_4_code 11 = .ok (.iload_n 3, 1) := by decide +kernel
theorem d_T_placeOf_12 : decode prog_11_method_4_code 12 = .ok (.iadd, 1) := by decide +kernel
theorem d_T_placeOf_13 : decode prog_11_method_4_code 13 = .ok (.istore 4, 2) := by decide +kernel
theorem d_T_placeOf_15 : decode prog_11_method_4_code 15 = .ok (.iload 4, 2) := by decide +kernel
theorem d_T_placeOf_17 : decode prog_11_method_4_code 17 = .ok (.aload_n 0, 1) := by decide +kernel
theorem d_T_placeOf_18 : decode prog_11_method_4_code 18 = .ok (.getfield 37, 3) := by decide +kernel
theorem d_T_placeOf_21 : decode prog_11_method_4_code 21 = .ok (.if_icmp .gt 23, 3) := by decide +kernel
theorem d_T_placeOf_44 : decode prog_11_method_4_code 44 = .ok (.iload_n 3, 1) := by decide +kernel
theorem d_T_placeOf_45 : decode prog_11_method_4_code 45 = .ok (.iconst 2, 1) := by decide +kernel
theorem d_T_placeOf_46 : decode prog_11_method_4_code 46 = .ok (.idiv, 1) := by decide +kernel
theorem d_T_placeOf_47 : decode prog_11_method_4_code 47 = .ok (.istore_n 3, 1) := by decide +kernel
theorem d_T_placeOf_48 : decode prog_11_method_4_code 48 = .ok (.goto (-42), 3) := by decide +kernel
theorem d_T_placeOf_24 : decode prog_11_method_4_code 24 = .ok (.aload_n 0, 1) := by decide +kernel
theorem d_T_placeOf_25 : decode prog_11_method_4_code 25 = .ok (.aload_n 0, 1) := by decide +kernel
theorem d_T_placeOf_26 : decode prog_11_method_4_code 26 = .ok (.getfield 19, 3) := by decide +kernel
theorem d_T_placeOf_29 : decode prog_11_method_4_code 29 = .ok (.iload 4, 2) := by decide +kernel
theorem d_T_placeOf_31 : decode prog_11_method_4_code 31 = .ok (.iconst 1, 1) := by decide +kernel
theorem d_T_placeOf_32 : decode prog_11_method_4_code 32 = .ok (.isub, 1) := by decide +kernel
theorem d_T_placeOf_33 : decode prog_11_method_4_code 33 = .ok (.aaload, 1) := by decide +kernel
theorem d_T_placeOf_34 : decode prog_11_method_4_code 34 = .ok (.aload_n 1, 1) := by decide +kernel
theorem d_T_placeOf_35 : decode prog_11_method_4_code 35 = .ok (.invokevirtual 51, 3) := by decide +kernel
theorem d_T_placeOf_38 : decode prog_11_method_4_code 38 = .ok (.ifCond .ge 6, 3) := by decide +kernel
theorem d_T_placeOf_41 : decode prog_11_method_4_code 41 = .ok (.iload 4, 2) := by decide +kernel
theorem d_T_placeOf_43 : decode prog_11_method_4_code 43 = .ok (.istore_n 2, 1) := by decide +kernel
theorem w1420 : Cond.methodLink "SeriesVault$Table" 51 ⟨"SeriesVault$Table", "compareTexts", "(LSeriesVault$Series;LSeriesVault$Series;)I"⟩ ∈ aW := aw_of (tb_7 (List.mem_of_getElem? (i := 217) rfl)) rfl
theorem w1421 : Cond.code ⟨"SeriesVault$Table", "compareTexts", "(LSeriesVault$Series;LSeriesVault$Series;)I"⟩ prog_11_method_7_code 5 (some FieldType.int) ∈ aW := aw_of (tb_7 (List.mem_of_getElem? (i := 220) rfl)) rfl
theorem w1422 : Cond.instanceMethod ⟨"SeriesVault$Table", "compareTexts", "(LSeriesVault$Series;LSeriesVault$Series;)I"⟩ ∈ aW := aw_of (tb_7 (List.mem_of_getElem? (i := 219) rfl)) rfl
theorem w1423 : Cond.selects "SeriesVault$Table" ⟨"SeriesVault$Table", "compareTexts", "(LSeriesVault$Series;LSeriesVault$Series;)I"⟩ ⟨"SeriesVault$Table", "compareTexts", "(LSeriesVault$Series;LSeriesVault$Series;)I"⟩ ∈ aW := aw_pr (List.mem_map.mpr ⟨_, pv_4 (List.mem_of_getElem? (i := 6) rfl), rfl⟩) rfl
set_option maxHeartbeats 4000000 in
set_option maxRecDepth 100000 in
theorem v_TplaceOf (l : Launch) (D : va_G) (dA : Nat → ClassId) (sz : Nat) (ws : va_W) (ta : Nat → Nat) (t : TB) (NL : Nat → List Int32) (RS : Nat → List LB) (a : Nat) (S : List LB) (hnm : nmOk dA ws t.nm t.nc NL) (hnc : t.nc ≤ 6) (hrs : rsOk dA ws t.rs t.rc RS) (hsa : isSer dA ws a S) (hoa : serOk S) (h1 : t.rc ≤ 256) : Met l ⟨"SeriesVault$Table", "placeOf", "(LSeriesVault$Series;)I"⟩ [Cond.code ⟨"SeriesVault$Table", "placeOf", "(LSeriesVault$Series;)I"⟩ prog_11_method_4_code 5 (some FieldType.int)] { frames := 4, cells := 0, slots := 0, locals := 68 } (pC D dA [.ref (ta 0), .ref a] (TbW dA ta t ++ (ws)) sz) (va_Qi (fun (r9 : Int32) (u9 : Unit) => r9 = nI (plT NL t.nc t.rc RS S) ∧ plT NL t.nc t.rc RS S ≤ t.rc) (fun (u9 : Unit) t9 => bW D (va_A (TbW dA ta t ++ (ws)) sz) (TbW dA ta t ++ (ws)) t9) (va_A (TbW dA ta t ++ (ws)) sz)) 0 0 (va_A (TbW dA ta t ++ (ws)) sz) := by
  refine mkC (y := ⟨"SeriesVault$Table", "placeOf", "(LSeriesVault$Series;)I"⟩) (cc := prog_11_method_4_code) (maxL := 5) (av := [.ref (ta 0), .ref a]) (ws := TbW dA ta t ++ (ws)) (sz := sz) (Qc := fun A => va_Qi (fun (r9 : Int32) (u9 : Unit) => r9 = nI (plT NL t.nc t.rc RS S) ∧ plT NL t.nc t.rc RS S ≤ t.rc) (fun (u9 : Unit) t9 => bW D A (TbW dA ta t ++ (ws)) t9) A) (by decide) (Nat.le_of_ble_eq_true rfl) ?_
  intro A p e s m below meth c ls hsz hB
  obtain ⟨hx, hb, hr, hml, hown, hin, hlk, hE, hK, hP, hD, hS, hA, hN, hl⟩ := hB
  have hown : s.vm.findClass "SeriesVault$Table" = some m.cls := hown
  have hl : lv_has ls 5 [(0, .ref (ta 0)), (1, .ref a)] := hl
  obtain ⟨H, hH⟩ : ∃ z, z = s.heap := ⟨_, rfl⟩
  have hP : va_P D vwCl (TbW dA ta t ++ (ws)) H := by rw [hH]; exact hP
  have hS : va_S A s.heap H [] := by rw [hH]; exact hS
  rw [← hH]
  refine lv_iconst (v := 0) hx hb d_T_placeOf_0 (by decide) ?_
  refine lv_istore_n hx hb d_T_placeOf_1 rfl hl (by decide) rfl (fun ls hl => ?_)
  have hl : lv_has ls 5 [(2, .int 0), (0, .ref (ta 0)), (1, .ref a)] := hl
  refine lv_sipush (v := 256) hx hb d_T_placeOf_2 (by decide) ?_
  refine lv_istore_n hx hb d_T_placeOf_5 rfl hl (by decide) rfl (fun ls hl => ?_)
  have hl : lv_has ls 5 [(3, .int 256), (2, .int 0), (0, .ref (ta 0)), (1, .ref a)] := hl
  have L6 : ∀ (k9 : Nat) (b : Nat) (st : Nat) (f : Nat) (i1 : b ≤ t.rc) (i2 : st = 2 ^ f / 2) (i4 : st ≤ 256) (i3 : bsG (ltT NL t.nc RS S) t.rc f st b = plT NL t.nc t.rc RS S) (hk9 : f = k9), ∀ (H : Heap) (locs : List Loc) (ls : Array Slot) (hP : va_P D vwCl (TbW dA ta t ++ (ws)) H) (hD : va_D A (TbW dA ta t ++ (ws))) (hS : va_S A s.heap H locs) (hl : lv_has ls 5 [(2, .int (nI b)), (3, .int (nI st)), (0, .ref (ta 0)), (1, .ref a)]), W p l e ({ frames := 4, cells := 0, slots := 0, locals := 68 } : Room) s m ([.ref (ta 0), .ref a] : List Value).toArray below meth c H locs 0 0 (MQ below (va_Qi (fun (r9 : Int32) (u9 : Unit) => r9 = nI (plT NL t.nc t.rc RS S) ∧ plT NL t.nc t.rc RS S ≤ t.rc) (fun (u9 : Unit) t9 => bW D A (TbW dA ta t ++ (ws)) t9) A) ([.ref (ta 0), .ref a] : List Value).toArray s 0 0 A) (F0 m 6 ls []) := by
    intro k9
    induction k9 using Nat.strongRecOn with
    | ind k9 ih6 =>
      intro b st f i1 i2 i4 i3 hk9 H locs ls hP hD hS hl
      refine lv_iload_n hx hb d_T_placeOf_6 rfl (lv_at hl 1 rfl) ?_
      refine lv_if_le hx hb d_T_placeOf_7 (tgt := 51) rfl (fun g1 => ?_) (fun g1 => ?_)
      · have g1 := (nI_leI (a := st) (b := 0) (by omega) (by decide)).mp g1
        refine lv_iload_n hx hb d_T_placeOf_51 rfl (lv_at hl 0 rfl) ?_
        exact rfI hx hb hr hlk hS () (have e8 : plT NL t.nc t.rc RS S = b := by { rw [← i3, hp_z i2 g1]; rfl }; ⟨by rw [e8], by rw [e8]; exact i1⟩) hP hD (Nat.le_of_ble_eq_true rfl) (Nat.le_of_ble_eq_true rfl) d_T_placeOf_52
      · have g1 := mt (nI_leI (a := st) (b := 0) (by omega) (by decide)).mpr g1
        refine lv_iload_n hx hb d_T_placeOf_10 rfl (lv_at hl 0 rfl) ?_
        refine lv_iload_n hx hb d_T_placeOf_11 rfl (lv_at hl 1 rfl) ?_
        refine lv_iadd hx hb d_T_placeOf_12 (tpi (y := nI (b + st)) (nI_add (b) (st)) ?_)
        refine lv_istore hx hb d_T_placeOf_13 hl (by decide) rfl (fun ls hl => ?_)
        have hl : lv_has ls 5 [(4, .int (nI (b + st))), (2, .int (nI b)), (3, .int (nI st)), (0, .ref (ta 0)), (1, .ref a)] := hl
        refine lv_iload hx hb d_T_placeOf_15 (lv_at hl 0 rfl) ?_
        refine lv_aload_n hx hb d_T_placeOf_17 rfl (lv_at hl 3 rfl) ?_
        refine gF (v := .int (nI t.rc)) hx hb hown hE hK hP 0 rfl rfl layT 3 (by decide) w1368 rfl d_T_placeOf_18 ?_
        refine lv_icmp_gt hx hb d_T_placeOf_21 (tgt := 44) rfl (fun g2 => ?_) (fun g2 => ?_)
        · have g2 := (nI_ltI (a := t.rc) (b := b + st) (by omega) (by omega)).mp g2
          refine lv_iload_n hx hb d_T_placeOf_44 rfl (lv_at hl 2 rfl) ?_
          refine lv_iconst (v := 2) hx hb d_T_placeOf_45 (by decide) ?_
          refine lv_idiv hx hb d_T_placeOf_46 (by decide) (tpi (y := nI (st / 2)) (pk_div (a := st) (d := 2) (by omega) (by omega) (by omega)) ?_)
          refine lv_istore_n hx hb d_T_placeOf_47 rfl hl (by decide) rfl (fun ls hl => ?_)
          have hl : lv_has ls 5 [(3, .int (nI (st / 2))), (4, .int (nI (b + st))), (2, .int (nI b)), (0, .ref (ta 0)), (1, .ref a)] := hl
          refine lv_goto hx hb d_T_placeOf_48 (tgt := 6) rfl ?_
          exact ih6 _ (by have := hp_f i2 g1; omega) b (st / 2) (f - 1) (by omega) (hp_s i2 g1) (by omega) (by rw [← i3, bs_n1 (hp_f i2 g1) g2]) rfl H _ ls hP hD hS (lv_sub hl [2, 0, 3, 4] rfl)
        · have g2 := mt (nI_ltI (a := t.rc) (b := b + st) (by omega) (by omega)).mpr g2
          refine lv_aload_n hx hb d_T_placeOf_24 rfl (lv_at hl 3 rfl) ?_
          refine lv_aload_n hx hb d_T_placeOf_25 rfl (lv_at hl 3 rfl) ?_
          obtain ⟨a1, er1, hs1, ho1⟩ := hrs (b + st - 1) (by omega)
          refine gF (v := .ref (ta 2)) hx hb hown hE hK hP 0 rfl rfl layT 4 (by decide) w787 rfl d_T_placeOf_26 ?_
          refine lv_iload hx hb d_T_placeOf_29 (lv_at hl 0 rfl) ?_
          refine lv_iconst (v := 1) hx hb d_T_placeOf_31 (by decide) ?_
          refine lv_isub hx hb d_T_placeOf_32 (tpi (y := nI ((b + st) - 1)) (pk_sub (a := b + st) (b := 1) (by omega)) ?_)
          refine nqld (f := t.rs) (n := 256) hx hb hK hP (2) 5 rfl rfl ((b + st) - 1) (by omega) (by decide) er1 d_T_placeOf_33 ?_
          refine lv_aload_n hx hb d_T_placeOf_34 rfl (lv_at hl 4 rfl) ?_
          refine jkI (wr := []) (rnV (As := [.ref a1, .ref a]) (rest := []) hx hb hml hown hE hK (hN _ _ hS) hP hD (v_TcompareTexts l D dA H.size ws ta t NL a1 (RS (b + st - 1)) a S hnm hnc hs1 ho1 hsa hoa) (q0 := 0) rfl rfl w1421 w1420 w1422 w1423 w807 rfl rfl ⟨⟨by decide, by decide⟩, rfl⟩ ⟨(Nat.le_of_ble_eq_true rfl), (Nat.le_of_ble_eq_true rfl)⟩ rfl hl.1 rfl (Nat.le_of_ble_eq_true rfl) d_T_placeOf_35 ⟨(Nat.le_of_ble_eq_true rfl), (Nat.le_of_ble_eq_true rfl)⟩) hP hD hS hA (fun r3 u4 H locs hp9 hP hD hS => ?_)
          have hP : va_P D vwCl (TbW dA ta t ++ (ws)) H := hP
          have hD : va_D A (TbW dA ta t ++ (ws)) := hD
          replace hp9 : cmT NL t.nc (RS (b + st - 1)) S = r3 := Eq.symm hp9
          subst hp9
          refine lv_if_ge hx hb d_T_placeOf_38 (tgt := 44) rfl (fun g5 => ?_) (fun g5 => ?_)
          · have g5 := g5
            refine lv_iload_n hx hb d_T_placeOf_44 rfl (lv_at hl 2 rfl) ?_
            refine lv_iconst (v := 2) hx hb d_T_placeOf_45 (by decide) ?_
            refine lv_idiv hx hb d_T_placeOf_46 (by decide) (tpi (y := nI (st / 2)) (pk_div (a := st) (d := 2) (by omega) (by omega) (by omega)) ?_)
            refine lv_istore_n hx hb d_T_placeOf_47 rfl hl (by decide) rfl (fun ls hl => ?_)
            have hl : lv_has ls 5 [(3, .int (nI (st / 2))), (4, .int (nI (b + st))), (2, .int (nI b)), (0, .ref (ta 0)), (1, .ref a)] := hl
            refine lv_goto hx hb d_T_placeOf_48 (tgt := 6) rfl ?_
            exact ih6 _ (by have := hp_f i2 g1; omega) b (st / 2) (f - 1) (by omega) (hp_s i2 g1) (by omega) (by rw [← i3, bs_n2 (hp_f i2 g1) (show ltT NL t.nc RS S (b + st - 1) = false by unfold ltT; rw [decide_eq_true g5]; rfl)]) rfl H _ ls hP hD hS (lv_sub hl [2, 0, 3, 4] rfl)
          · have g5 := g5
            refine lv_iload hx hb d_T_placeOf_41 (lv_at hl 0 rfl) ?_
            refine lv_istore_n hx hb d_T_placeOf_43 rfl hl (by decide) rfl (fun ls hl => ?_)
            have hl : lv_has ls 5 [(2, .int (nI (b + st))), (4, .int (nI (b + st))), (3, .int (nI st)), (0, .ref (ta 0)), (1, .ref a)] := hl
            refine lv_iload_n hx hb d_T_placeOf_44 rfl (lv_at hl 2 rfl) ?_
            refine lv_iconst (v := 2) hx hb d_T_placeOf_45 (by decide) ?_
            refine lv_idiv hx hb d_T_placeOf_46 (by decide) (tpi (y := nI (st / 2)) (pk_div (a := st) (d := 2) (by omega) (by omega) (by omega)) ?_)
            refine lv_istore_n hx hb d_T_placeOf_47 rfl hl (by decide) rfl (fun ls hl => ?_)
            have hl : lv_has ls 5 [(3, .int (nI (st / 2))), (2, .int (nI (b + st))), (4, .int (nI (b + st))), (0, .ref (ta 0)), (1, .ref a)] := hl
            refine lv_goto hx hb d_T_placeOf_48 (tgt := 6) rfl ?_
            exact ih6 _ (by have := hp_f i2 g1; omega) (b + st) (st / 2) (f - 1) (by omega) (hp_s i2 g1) (by omega) (by rw [← i3, bs_y (hp_f i2 g1) (by omega) (show ltT NL t.nc RS S (b + st - 1) = true by unfold ltT; rw [decide_eq_false g5]; rfl)]) rfl H _ ls hP hD hS (lv_sub hl [1, 0, 3, 4] rfl)
  exact L6 _ 0 256 9 (Nat.zero_le _) (by decide) (by decide) rfl rfl H _ ls hP hD hS (lv_sub hl [1, 0, 2, 3] rfl)
theorem d_T_rowOf_0 : decode prog_11_method_5_code 0 = .ok (.aload_n 0, 1) := by decide +kernel
theorem d_T_rowOf_1 : decode prog_11_method_5_code 1 = .ok (.aload_n 1, 1) := by decide +kernel
theorem d_T_rowOf_2 : decode prog_11_method_5_code 2 = .ok (.invokevirtual 55, 3) := by decide +kernel
theorem d_T_rowOf_5 : decode prog_11_method_5_code 5 = .ok (.istore_n 2, 1) := by decide +kernel
theorem d_T_rowOf_6 : decode prog_11_method_5_code 6 = .ok (.iload_n 2, 1) := by decide +kernel
theorem d_T_rowOf_7 : decode prog_11_method_5_code 7 = .ok (.aload_n 0, 1) := by decide +kernel
theorem d_T_rowOf_8 : decode prog_11_method_5_code 8 = .ok (.getfield 37, 3) := by decide +kernel
theorem d_T_rowOf_11 : decode prog_11_method_5_code 11 = .ok (.if_icmp .ge 21, 3) := by decide +kernel
theorem d_T_rowOf_32 : decode prog_11_method_5_code 32 = .ok (.iconst (-1), 1) := by decide +kernel
theorem d_T_rowOf_33 : decode prog_11_method_5_code 33 = .ok (.ireturn, 1) := by decide +kernel
theorem d_T_rowOf_14 : decode prog_11_method_5_code 14 = .ok (.aload_n 0, 1) := by decide +kernel
theorem d_T_rowOf_15 : decode prog_11_method_5_code 15 = .ok (.aload_n 0, 1) := by decide +kernel
theorem d_T_rowOf_16 : decode prog_11_method_5_code 16 = .ok (.getfield 19, 3) := by decide +kernel
theorem d_T_rowOf_19 : decode prog_11_method_5_code 19 = .ok (.iload_n 2, 1) := by decide +kernel
theorem d_T_rowOf_20 : decode prog_11_method_5_code 20 = .ok (.aaload, 1) := by decide +kernel
theorem d_T_rowOf_21 : decode prog_11_method_5_code 21 = .ok (.aload_n 1, 1) := by decide +kernel
theorem d_T_rowOf_22 : decode prog_11_method_5_code 22 = .ok (.invokevirtual 51, 3) := by decide +kernel
theorem d_T_rowOf_25 : decode prog_11_method_5_code 25 = .ok (.ifCond .ne 7, 3) := by decide +kernel
theorem d_T_rowOf_28 : decode prog_11_method_5_code 28 = .ok (.iload_n 2, 1) := by decide +kernel
theorem d_T_rowOf_29 : decode prog_11_method_5_code 29 = .ok (.goto 4, 3) := by decide +kernel
theorem w1424 : Cond.methodLink "SeriesVault$Table" 55 ⟨"SeriesVault$Table", "placeOf", "(LSeriesVault$Series;)I"⟩ ∈ aW := aw_of (tb_7 (List.mem_of_getElem? (i := 213) rfl)) rfl
theorem w1425 : Cond.code ⟨"SeriesVault$Table", "placeOf", "(LSeriesVault$Series;)I"⟩ prog_11_method_4_code 5 (some FieldType.int) ∈ aW := aw_of (tb_7 (List.mem_of_getElem? (i := 216) rfl)) rfl
theorem w1426 : Cond.instanceMethod ⟨"SeriesVault$Table", "placeOf", "(LSeriesVault$Series;)I"⟩ ∈ aW := aw_of (tb_7 (List.mem_of_getElem? (i := 215) rfl)) rfl
theorem w1427 : Cond.selects "SeriesVault$Table" ⟨"SeriesVault$Table", "placeOf", "(LSeriesVault$Series;)I"⟩ ⟨"SeriesVault$Table", "placeOf", "(LSeriesVault$Series;)I"⟩ ∈ aW := aw_pr (List.mem_map.mpr ⟨_, pv_4 (List.mem_of_getElem? (i := 5) rfl), rfl⟩) rfl
set_option maxHeartbeats 4000000 in
set_option maxRecDepth 100000 in
theorem v_TrowOf (l : Launch) (D : va_G) (dA : Nat → ClassId) (sz : Nat) (ws : va_W) (ta : Nat → Nat) (t : TB) (NL : Nat → List Int32) (RS : Nat → List LB) (a : Nat) (S : List LB) (hnm : nmOk dA ws t.nm t.nc NL) (hnc : t.nc ≤ 6) (hrs : rsOk dA ws t.rs t.rc RS) (hsa : isSer dA ws a S) (hoa : serOk S) (h1 : t.rc ≤ 256) : Met l ⟨"SeriesVault$Table", "rowOf", "(LSeriesVault$Series;)I"⟩ [Cond.code ⟨"SeriesVault$Table", "rowOf", "(LSeriesVault$Series;)I"⟩ prog_11_method_5_code 3 (some FieldType.int)] { frames := 5, cells := 0, slots := 0, locals := 92 } (pC D dA [.ref (ta 0), .ref a] (TbW dA ta t ++ (ws)) sz) (va_Qi (fun (r9 : Int32) (u9 : Unit) => r9 = roT NL t.nc t.rc RS S) (fun (u9 : Unit) t9 => bW D (va_A (TbW dA ta t ++ (ws)) sz) (TbW dA ta t ++ (ws)) t9) (va_A (TbW dA ta t ++ (ws)) sz)) 0 0 (va_A (TbW dA ta t ++ (ws)) sz) := by
  refine mkC (y := ⟨"SeriesVault$Table", "rowOf", "(LSeriesVault$Series;)I"⟩) (cc := prog_11_method_5_code) (maxL := 3) (av := [.ref (ta 0), .ref a]) (ws := TbW dA ta t ++ (ws)) (sz := sz) (Qc := fun A => va_Qi (fun (r9 : Int32) (u9 : Unit) => r9 = roT NL t.nc t.rc RS S) (fun (u9 : Unit) t9 => bW D A (TbW dA ta t ++ (ws)) t9) A) (by decide) (Nat.le_of_ble_eq_true rfl) ?_
  intro A p e s m below meth c ls hsz hB
  obtain ⟨hx, hb, hr, hml, hown, hin, hlk, hE, hK, hP, hD, hS, hA, hN, hl⟩ := hB
  have hown : s.vm.findClass "SeriesVault$Table" = some m.cls := hown
  have hl : lv_has ls 3 [(0, .ref (ta 0)), (1, .ref a)] := hl
  obtain ⟨H, hH⟩ : ∃ z, z = s.heap := ⟨_, rfl⟩
  have hP : va_P D vwCl (TbW dA ta t ++ (ws)) H := by rw [hH]; exact hP
  have hS : va_S A s.heap H [] := by rw [hH]; exact hS
  rw [← hH]
  refine lv_aload_n hx hb d_T_rowOf_0 rfl (lv_at hl 0 rfl) ?_
  refine lv_aload_n hx hb d_T_rowOf_1 rfl (lv_at hl 1 rfl) ?_
  refine jkI (wr := []) (rnV (As := [.ref a]) (rest := []) hx hb hml hown hE hK (hN _ _ hS) hP hD (v_TplaceOf l D dA H.size ws ta t NL RS a S hnm hnc hrs hsa hoa (show t.rc ≤ 256 from by omega)) (q0 := 0) rfl rfl w1425 w1424 w1426 w1427 w807 rfl rfl ⟨⟨by decide, by decide⟩, rfl⟩ ⟨(Nat.le_of_ble_eq_true rfl), (Nat.le_of_ble_eq_true rfl)⟩ rfl hl.1 rfl (Nat.le_of_ble_eq_true rfl) d_T_rowOf_2 ⟨(Nat.le_of_ble_eq_true rfl), (Nat.le_of_ble_eq_true rfl)⟩) hP hD hS hA (fun r1 u2 H locs hp9 hP hD hS => ?_)
  have hP : va_P D vwCl (TbW dA ta t ++ (ws)) H := hP
  have hD : va_D A (TbW dA ta t ++ (ws)) := hD
  obtain ⟨hp9, f_le_3⟩ := hp9
  replace hp9 : nI (plT NL t.nc t.rc RS S) = r1 := Eq.symm hp9
  subst hp9
  refine lv_istore_n hx hb d_T_rowOf_5 rfl hl (by decide) rfl (fun ls hl => ?_)
  have hl : lv_has ls 3 [(2, .int (nI (plT NL t.nc t.rc RS S))), (0, .ref (ta 0)), (1, .ref a)] := hl
  refine lv_iload_n hx hb d_T_rowOf_6 rfl (lv_at hl 0 rfl) ?_
  refine lv_aload_n hx hb d_T_rowOf_7 rfl (lv_at hl 1 rfl) ?_
  refine gF (v := .int (nI t.rc)) hx hb hown hE hK hP 0 rfl rfl layT 3 (by decide) w1368 rfl d_T_rowOf_8 ?_
  refine lv_icmp_ge hx hb d_T_rowOf_11 (tgt := 32) rfl (fun g4 => ?_) (fun g4 => ?_)
  · have g4 := (nI_leI (a := t.rc) (b := plT NL t.nc t.rc RS S) (by omega) (by omega)).mp g4
    refine lv_iconst (v := (-1)) hx hb d_T_rowOf_32 (by decide) ?_
    exact rfI hx hb hr hlk hS () (by unfold roT; rw [if_neg (fun h => Nat.not_lt.mpr g4 h.1)]) hP hD (Nat.le_of_ble_eq_true rfl) (Nat.le_of_ble_eq_true rfl) d_T_rowOf_33
  · have g4 := mt (nI_leI (a := t.rc) (b := plT NL t.nc t.rc RS S) (by omega) (by omega)).mpr g4
    refine lv_aload_n hx hb d_T_rowOf_14 rfl (lv_at hl 1 rfl) ?_
    refine lv_aload_n hx hb d_T_rowOf_15 rfl (lv_at hl 1 rfl) ?_
    obtain ⟨a1, er1, hs1, ho1⟩ := hrs (plT NL t.nc t.rc RS S) (by omega)
    refine gF (v := .ref (ta 2)) hx hb hown hE hK hP 0 rfl rfl layT 4 (by decide) w787 rfl d_T_rowOf_16 ?_
    refine lv_iload_n hx hb d_T_rowOf_19 rfl (lv_at hl 0 rfl) ?_
    refine nqld (f := t.rs) (n := 256) hx hb hK hP (2) 5 rfl rfl (plT NL t.nc t.rc RS S) (by omega) (by decide) er1 d_T_rowOf_20 ?_
    refine lv_aload_n hx hb d_T_rowOf_21 rfl (lv_at hl 2 rfl) ?_
    refine jkI (wr := []) (rnV (As := [.ref a1, .ref a]) (rest := []) hx hb hml hown hE hK (hN _ _ hS) hP hD (v_TcompareTexts l D dA H.size ws ta t NL a1 (RS (plT NL t.nc t.rc RS S)) a S hnm hnc hs1 ho1 hsa hoa) (q0 := 0) rfl rfl w1421 w1420 w1422 w1423 w807 rfl rfl ⟨⟨by decide, by decide⟩, rfl⟩ ⟨(Nat.le_of_ble_eq_true rfl), (Nat.le_of_ble_eq_true rfl)⟩ rfl hl.1 rfl (Nat.le_of_ble_eq_true rfl) d_T_rowOf_22 ⟨(Nat.le_of_ble_eq_true rfl), (Nat.le_of_ble_eq_true rfl)⟩) hP hD hS hA (fun r5 u6 H locs hp9 hP hD hS => ?_)
    have hP : va_P D vwCl (TbW dA ta t ++ (ws)) H := hP
    have hD : va_D A (TbW dA ta t ++ (ws)) := hD
    replace hp9 : cmT NL t.nc (RS (plT NL t.nc t.rc RS S)) S = r5 := Eq.symm hp9
    subst hp9
    refine lv_if_ne hx hb d_T_rowOf_25 (tgt := 32) rfl (fun g7 => ?_) (fun g7 => ?_)
    · have g7 := g7
      refine lv_iconst (v := (-1)) hx hb d_T_rowOf_32 (by decide) ?_
      exact rfI hx hb hr hlk hS () (by unfold roT; rw [if_neg (fun h => g7 h.2)]) hP hD (Nat.le_of_ble_eq_true rfl) (Nat.le_of_ble_eq_true rfl) d_T_rowOf_33
    · have g7 := g7
      refine lv_iload_n hx hb d_T_rowOf_28 rfl (lv_at hl 0 rfl) ?_
      refine lv_goto hx hb d_T_rowOf_29 (tgt := 33) rfl ?_
      exact rfI hx hb hr hlk hS () (by unfold roT; rw [if_pos ⟨Nat.not_le.mp g4, g7⟩]) hP hD (Nat.le_of_ble_eq_true rfl) (Nat.le_of_ble_eq_true rfl) d_T_rowOf_33
theorem d_T_addRow_0 : decode prog_11_method_6_code 0 = .ok (.aload_n 0, 1) := by decide +kernel
theorem d_T_addRow_1 : decode prog_11_method_6_code 1 = .ok (.aload_n 1, 1) := by decide +kernel
theorem d_T_addRow_2 : decode prog_11_method_6_code 2 = .ok (.invokevirtual 55, 3) := by decide +kernel
theorem d_T_addRow_5 : decode prog_11_method_6_code 5 = .ok (.istore_n 2, 1) := by decide +kernel
theorem d_T_addRow_6 : decode prog_11_method_6_code 6 = .ok (.aload_n 0, 1) := by decide +kernel
theorem d_T_addRow_7 : decode prog_11_method_6_code 7 = .ok (.getfield 37, 3) := by decide +kernel
theorem d_T_addRow_10 : decode prog_11_method_6_code 10 = .ok (.sipush 256, 3) := by decide +kernel
theorem d_T_addRow_13 : decode prog_11_method_6_code 13 = .ok (.if_icmp .eq 25, 3) := by decide +kernel
theorem d_T_addRow_38 : decode prog_11_method_6_code 38 = .ok (.return_, 1) := by decide +kernel
theorem d_T_addRow_16 : decode prog_11_method_6_code 16 = .ok (.iload_n 2, 1) := by decide +kernel
theorem d_T_addRow_17 : decode prog_11_method_6_code 17 = .ok (.aload_n 0, 1) := by decide +kernel
theorem d_T_addRow_18 : decode prog_11_method_6_code 18 = .ok (.getfield 37, 3) := by decide +kernel
theorem d_T_addRow_21 : decode prog_11_method_6_code 21 = .ok (.if_icmp .ge 18, 3) := by decide +kernel
theorem d_T_addRow_39 : decode prog_11_method_6_code 39 = .ok (.aload_n 0, 1) := by decide +kernel
theorem d_T_addRow_40 : decode prog_11_method_6_code 40 = .ok (.getfield 37, 3) := by decide +kernel
theorem d_T_addRow_43 : decode prog_11_method_6_code 43 = .ok (.istore_n 3, 1) := by decide +kernel
theorem d_T_addRow_44 : decode prog_11_method_6_code 44 = .ok (.iload_n 3, 1) := by decide +kernel
theorem d_T_addRow_45 : decode prog_11_method_6_code 45 = .ok (.iload_n 2, 1) := by decide +kernel
theorem d_T_addRow_46 : decode prog_11_method_6_code 46 = .ok (.if_icmp .le 23, 3) := by decide +kernel
theorem d_T_addRow_69 : decode prog_11_method_6_code 69 = .ok (.aload_n 0, 1) := by decide +kernel
theorem d_T_addRow_70 : decode prog_11_method_6_code 70 = .ok (.getfield 19, 3) := by decide +kernel
theorem d_T_addRow_73 : decode prog_11_method_6_code 73 = .ok (.iload_n 2, 1) := by decide +kernel
theorem d_T_addRow_74 : decode prog_11_method_6_code 74 = .ok (.aload_n 1, 1) := by decide +kernel
theorem d_T_addRow_75 : decode prog_11_method_6_code 75 = .ok (.aastore, 1) := by decide +kernel
theorem d_T_addRow_76 : decode prog_11_method_6_code 76 = .ok (.aload_n 0, 1) := by decide +kernel
theorem d_T_addRow_77 : decode prog_11_method_6_code 77 = .ok (.dup, 1) := by decide +kernel
theorem d_T_addRow_78 : decode prog_11_method_6_code 78 = .ok (.getfield 37, 3) := by decide +kernel
theorem d_T_addRow_81 : decode prog_11_method_6_code 81 = .ok (.iconst 1, 1) := by decide +kernel
theorem d_T_addRow_82 : decode prog_11_method_6_code 82 = .ok (.iadd, 1) := by decide +kernel
theorem d_T_addRow_83 : decode prog_11_method_6_code 83 = .ok (.putfield 37, 3) := by decide +kernel
theorem d_T_addRow_86 : decode prog_11_method_6_code 86 = .ok (.return_, 1) := by decide +kernel
theorem d_T_addRow_49 : decode prog_11_method_6_code 49 = .ok (.aload_n 0, 1) := by decide +kernel
theorem d_T_addRow_50 : decode prog_11_method_6_code 50 = .ok (.getfield 19, 3) := by decide +kernel
theorem d_T_addRow_53 : decode prog_11_method_6_code 53 = .ok (.iload_n 3, 1) := by decide +kernel
theorem d_T_addRow_54 : decode prog_11_method_6_code 54 = .ok (.aload_n 0, 1) := by decide +kernel
theorem d_T_addRow_55 : decode prog_11_method_6_code 55 = .ok (.getfield 19, 3) := by decide +kernel
theorem d_T_addRow_58 : decode prog_11_method_6_code 58 = .ok (.iload_n 3, 1) := by decide +kernel
theorem d_T_addRow_59 : decode prog_11_method_6_code 59 = .ok (.iconst 1, 1) := by decide +kernel
theorem d_T_addRow_60 : decode prog_11_method_6_code 60 = .ok (.isub, 1) := by decide +kernel
theorem d_T_addRow_61 : decode prog_11_method_6_code 61 = .ok (.aaload, 1) := by decide +kernel
theorem d_T_addRow_62 : decode prog_11_method_6_code 62 = .ok (.aastore, 1) := by decide +kernel
theorem d_T_addRow_63 : decode prog_11_method_6_code 63 = .ok (.iinc 3 (-1), 3) := by decide +kernel
theorem d_T_addRow_66 : decode prog_11_method_6_code 66 = .ok (.goto (-22), 3) := by decide +kernel
theorem d_T_addRow_24 : decode prog_11_method_6_code 24 = .ok (.aload_n 0, 1) := by decide +kernel
theorem d_T_addRow_25 : decode prog_11_method_6_code 25 = .ok (.aload_n 0, 1) := by decide +kernel
theorem d_T_addRow_26 : decode prog_11_method_6_code 26 = .ok (.getfield 19, 3) := by decide +kernel
theorem d_T_addRow_29 : decode prog_11_method_6_code 29 = .ok (.iload_n 2, 1) := by decide +kernel
theorem d_T_addRow_30 : decode prog_11_method_6_code 30 = .ok (.aaload, 1) := by decide +kernel
theorem d_T_addRow_31 : decode prog_11_method_6_code 31 = .ok (.aload_n 1, 1) := by decide +kernel
theorem d_T_addRow_32 : decode prog_11_method_6_code 32 = .ok (.invokevirtual 51, 3) := by decide +kernel
theorem d_T_addRow_35 : decode prog_11_method_6_code 35 = .ok (.ifCond .ne 4, 3) := by decide +kernel
set_option maxHeartbeats 4000000 in
set_option maxRecDepth 100000 in
theorem v_TaddRow (l : Launch) (D : va_G) (dA : Nat → ClassId) (sz : Nat) (ws : va_W) (ta : Nat → Nat) (t : TB) (NL : Nat → List Int32) (RS : Nat → List LB) (a : Nat) (S : List LB) (hnm : nmOk dA ws t.nm t.nc NL) (hnc : t.nc ≤ 6) (hrs : rsOk dA ws t.rs t.rc RS) (hsa : isSer dA ws a S) (hoa : serOk S) (h1 : t.rc ≤ 256) : Met l ⟨"SeriesVault$Table", "addRow", "(LSeriesVault$Series;)V"⟩ [Cond.code ⟨"SeriesVault$Table", "addRow", "(LSeriesVault$Series;)V"⟩ prog_11_method_6_code 4 none] { frames := 5, cells := 0, slots := 0, locals := 92 } (pC D dA [.ref (ta 0), .ref a] (TbW dA ta t ++ (ws)) sz) (va_Qv (fun (u9 : TB) => u9 = adT NL t RS S a) (fun (u9 : TB) t9 => bW D (va_A (TbW dA ta t ++ (ws)) sz) (TbW dA ta u9 ++ (ws)) t9) (va_A (TbW dA ta t ++ (ws)) sz)) 0 0 (va_A (TbW dA ta t ++ (ws)) sz) := by
  refine mkC (y := ⟨"SeriesVault$Table", "addRow", "(LSeriesVault$Series;)V"⟩) (cc := prog_11_method_6_code) (maxL := 4) (av := [.ref (ta 0), .ref a]) (ws := TbW dA ta t ++ (ws)) (sz := sz) (Qc := fun A => va_Qv (fun (u9 : TB) => u9 = adT NL t RS S a) (fun (u9 : TB) t9 => bW D A (TbW dA ta u9 ++ (ws)) t9) A) (by decide) (Nat.le_of_ble_eq_true rfl) ?_
  intro A p e s m below meth c ls hsz hB
  obtain ⟨hx, hb, hr, hml, hown, hin, hlk, hE, hK, hP, hD, hS, hA, hN, hl⟩ := hB
  have hown : s.vm.findClass "SeriesVault$Table" = some m.cls := hown
  have hl : lv_has ls 4 [(0, .ref (ta 0)), (1, .ref a)] := hl
  obtain ⟨H, hH⟩ : ∃ z, z = s.heap := ⟨_, rfl⟩
  have hP : va_P D vwCl (TbW dA ta t ++ (ws)) H := by rw [hH]; exact hP
  have hS : va_S A s.heap H [] := by rw [hH]; exact hS
  rw [← hH]
  have hc0 := hsa
  obtain ⟨na0, va0, no0, tx0, fn0, fv0, j0, -⟩ := hc0
  refine lv_aload_n hx hb d_T_addRow_0 rfl (lv_at hl 0 rfl) ?_
  refine lv_aload_n hx hb d_T_addRow_1 rfl (lv_at hl 1 rfl) ?_
  refine jkI (wr := []) (rnV (As := [.ref a]) (rest := []) hx hb hml hown hE hK (hN _ _ hS) hP hD (v_TplaceOf l D dA H.size ws ta t NL RS a S hnm hnc hrs hsa hoa (show t.rc ≤ 256 from by omega)) (q0 := 0) rfl rfl w1425 w1424 w1426 w1427 w807 rfl rfl ⟨⟨by decide, by decide⟩, rfl⟩ ⟨(Nat.le_of_ble_eq_true rfl), (Nat.le_of_ble_eq_true rfl)⟩ rfl hl.1 rfl (Nat.le_of_ble_eq_true rfl) d_T_addRow_2 ⟨(Nat.le_of_ble_eq_true rfl), (Nat.le_of_ble_eq_true rfl)⟩) hP hD hS hA (fun r1 u2 H locs hp9 hP hD hS => ?_)
  have hP : va_P D vwCl (TbW dA ta t ++ (ws)) H := hP
  have hD : va_D A (TbW dA ta t ++ (ws)) := hD
  obtain ⟨hp9, f_le_3⟩ := hp9
  replace hp9 : nI (plT NL t.nc t.rc RS S) = r1 := Eq.symm hp9
  subst hp9
  refine lv_istore_n hx hb d_T_addRow_5 rfl hl (by decide) rfl (fun ls hl => ?_)
  have hl : lv_has ls 4 [(2, .int (nI (plT NL t.nc t.rc RS S))), (0, .ref (ta 0)), (1, .ref a)] := hl
  refine lv_aload_n hx hb d_T_addRow_6 rfl (lv_at hl 1 rfl) ?_
  refine gF (v := .int (nI t.rc)) hx hb hown hE hK hP 0 rfl rfl layT 3 (by decide) w1368 rfl d_T_addRow_7 ?_
  refine lv_sipush (v := 256) hx hb d_T_addRow_10 (by decide) ?_
  refine lv_icmp_eq hx hb d_T_addRow_13 (tgt := 38) rfl (fun g4 => ?_) (fun g4 => ?_)
  · have g4 := (nI_eq (a := t.rc) (b := 256) (by omega) (by omega)).mp g4
    exact rfV hx hb hr hlk hS t (by unfold adT; rw [if_pos (Or.inl g4)]) hP hD (Nat.le_of_ble_eq_true rfl) (Nat.le_of_ble_eq_true rfl) d_T_addRow_38
  · have g4 := mt (nI_eq (a := t.rc) (b := 256) (by omega) (by omega)).mpr g4
    refine lv_iload_n hx hb d_T_addRow_16 rfl (lv_at hl 0 rfl) ?_
    refine lv_aload_n hx hb d_T_addRow_17 rfl (lv_at hl 1 rfl) ?_
    refine gF (v := .int (nI t.rc)) hx hb hown hE hK hP 0 rfl rfl layT 3 (by decide) w1368 rfl d_T_addRow_18 ?_
    refine lv_icmp_ge hx hb d_T_addRow_21 (tgt := 39) rfl (fun g5 => ?_) (fun g5 => ?_)
    · have g5 := (nI_leI (a := t.rc) (b := plT NL t.nc t.rc RS S) (by omega) (by omega)).mp g5
      refine lv_aload_n hx hb d_T_addRow_39 rfl (lv_at hl 1 rfl) ?_
      refine gF (v := .int (nI t.rc)) hx hb hown hE hK hP 0 rfl rfl layT 3 (by decide) w1368 rfl d_T_addRow_40 ?_
      refine lv_istore_n hx hb d_T_addRow_43 rfl hl (by decide) rfl (fun ls hl => ?_)
      have hl : lv_has ls 4 [(3, .int (nI t.rc)), (2, .int (nI (plT NL t.nc t.rc RS S))), (0, .ref (ta 0)), (1, .ref a)] := hl
      have L44 : ∀ (k9 : Nat) (i : Nat) (i1 : i ≤ t.rc) (i2 : plT NL t.nc t.rc RS S ≤ i) (hk9 : i = k9), ∀ (H : Heap) (locs : List Loc) (ls : Array Slot) (hP : va_P D vwCl (TbW dA ta (TB.s_rs t (shF t.rs i t.rc)) ++ (ws)) H) (hD : va_D A (TbW dA ta (TB.s_rs t (shF t.rs i t.rc)) ++ (ws))) (hS : va_S A s.heap H locs) (hl : lv_has ls 4 [(3, .int (nI i)), (2, .int (nI (plT NL t.nc t.rc RS S))), (0, .ref (ta 0)), (1, .ref a)]), W p l e ({ frames := 5, cells := 0, slots := 0, locals := 92 } : Room) s m ([.ref (ta 0), .ref a] : List Value).toArray below meth c H locs 0 0 (MQ below (va_Qv (fun (u9 : TB) => u9 = adT NL t RS S a) (fun (u9 : TB) t9 => bW D A (TbW dA ta u9 ++ (ws)) t9) A) ([.ref (ta 0), .ref a] : List Value).toArray s 0 0 A) (F0 m 44 ls []) := by
        intro k9
        induction k9 using Nat.strongRecOn with
        | ind k9 ih44 =>
          intro i i1 i2 hk9 H locs ls hP hD hS hl
          refine lv_iload_n hx hb d_T_addRow_44 rfl (lv_at hl 0 rfl) ?_
          refine lv_iload_n hx hb d_T_addRow_45 rfl (lv_at hl 1 rfl) ?_
          refine lv_icmp_le hx hb d_T_addRow_46 (tgt := 69) rfl (fun g6 => ?_) (fun g6 => ?_)
          · have g6 := (nI_leI (a := i) (b := plT NL t.nc t.rc RS S) (by omega) (by omega)).mp g6
            refine lv_aload_n hx hb d_T_addRow_69 rfl (lv_at hl 2 rfl) ?_
            refine gF (v := .ref (ta 2)) hx hb hown hE hK hP 0 rfl rfl layT 4 (by decide) w787 rfl d_T_addRow_70 ?_
            refine lv_iload_n hx hb d_T_addRow_73 rfl (lv_at hl 1 rfl) ?_
            refine lv_aload_n hx hb d_T_addRow_74 rfl (lv_at hl 3 rfl) ?_
            obtain ⟨qp7, ep8⟩ := List.getElem?_of_mem (show ((a, .inr (11, [.ref na0, .ref va0, .ref no0, .ref tx0])) : Nat × va_E) ∈ TbW dA ta (TB.s_rs t (shF t.rs i t.rc)) ++ (ws) from (List.mem_append_right _ j0))
            refine nqst (r := ("SeriesVault$Series", TS, 4)) (f := (shF t.rs i t.rc)) (n := 256) hx hb hK hP hD hS (2) 5 (qp7) 11 rfl rfl ep8 rfl (plT NL t.nc t.rc RS S) (by omega) (by decide) d_T_addRow_75 (fun H locs hP hD hS => ?_)
            have hP : va_P D vwCl (TbW dA ta (TB.s_rs t (va_up (shF t.rs i t.rc) (plT NL t.nc t.rc RS S) (some a))) ++ (ws)) H := hP
            have hD : va_D A (TbW dA ta (TB.s_rs t (va_up (shF t.rs i t.rc) (plT NL t.nc t.rc RS S) (some a))) ++ (ws)) := hD
            refine lv_aload_n hx hb d_T_addRow_76 rfl (lv_at hl 2 rfl) ?_
            refine lv_dup hx hb d_T_addRow_77 rfl ?_
            refine gF (v := .int (nI t.rc)) hx hb hown hE hK hP 0 rfl rfl layT 3 (by decide) w1368 rfl d_T_addRow_78 ?_
            refine lv_iconst (v := 1) hx hb d_T_addRow_81 (by decide) ?_
            refine lv_iadd hx hb d_T_addRow_82 (tpi (y := nI (t.rc + 1)) (nI_add (t.rc) (1)) ?_)
            refine pF (v := .int (nI (t.rc + 1))) hx hb hown hE hK hP hD hS 0 rfl rfl layT tyT tokT nmT 3 (by decide) w1368 rfl rfl rfl (Nat.le_of_ble_eq_true rfl) d_T_addRow_83 (fun H locs hP hD hS => ?_)
            have hP : va_P D vwCl (TbW dA ta (TB.s_rs (TB.s_rc t (t.rc + 1)) (va_up (shF t.rs i t.rc) (plT NL t.nc t.rc RS S) (some a))) ++ (ws)) H := hP
            have hD : va_D A (TbW dA ta (TB.s_rs (TB.s_rc t (t.rc + 1)) (va_up (shF t.rs i t.rc) (plT NL t.nc t.rc RS S) (some a))) ++ (ws)) := hD
            exact rfV hx hb hr hlk hS (TB.s_rs (TB.s_rc t (t.rc + 1)) (va_up (shF t.rs i t.rc) (plT NL t.nc t.rc RS S) (some a))) (by unfold adT; rw [if_neg (fun h => h.elim g4 (fun h => Nat.not_lt.mpr g5 h.1)), ← show i = plT NL t.nc t.rc RS S by omega]; rfl) hP hD (Nat.le_of_ble_eq_true rfl) (Nat.le_of_ble_eq_true rfl) d_T_addRow_86
          · have g6 := mt (nI_leI (a := i) (b := plT NL t.nc t.rc RS S) (by omega) (by omega)).mpr g6
            refine lv_aload_n hx hb d_T_addRow_49 rfl (lv_at hl 2 rfl) ?_
            refine gF (v := .ref (ta 2)) hx hb hown hE hK hP 0 rfl rfl layT 4 (by decide) w787 rfl d_T_addRow_50 ?_
            refine lv_iload_n hx hb d_T_addRow_53 rfl (lv_at hl 0 rfl) ?_
            refine lv_aload_n hx hb d_T_addRow_54 rfl (lv_at hl 2 rfl) ?_
            obtain ⟨a1, er1, hs1, ho1⟩ := hrs (i - 1) (by omega)
            have hs1c := hs1
            obtain ⟨na1, va1, no1, tx1, fn1, fv1, j1, -⟩ := hs1c
            refine gF (v := .ref (ta 2)) hx hb hown hE hK hP 0 rfl rfl layT 4 (by decide) w787 rfl d_T_addRow_55 ?_
            refine lv_iload_n hx hb d_T_addRow_58 rfl (lv_at hl 0 rfl) ?_
            refine lv_iconst (v := 1) hx hb d_T_addRow_59 (by decide) ?_
            refine lv_isub hx hb d_T_addRow_60 (tpi (y := nI (i - 1)) (pk_sub (a := i) (b := 1) (by omega)) ?_)
            refine nqld (f := (shF t.rs i t.rc)) (n := 256) hx hb hK hP (2) 5 rfl rfl (i - 1) (by omega) (by decide) ((shF_at (by omega)).trans er1) d_T_addRow_61 ?_
            obtain ⟨qp9, ep10⟩ := List.getElem?_of_mem (show ((a1, .inr (11, [.ref na1, .ref va1, .ref no1, .ref tx1])) : Nat × va_E) ∈ TbW dA ta (TB.s_rs t (shF t.rs i t.rc)) ++ (ws) from (List.mem_append_right _ j1))
            refine nqst (r := ("SeriesVault$Series", TS, 4)) (f := (shF t.rs i t.rc)) (n := 256) hx hb hK hP hD hS (2) 5 (qp9) 11 rfl rfl ep10 rfl (i) (by omega) (by decide) d_T_addRow_62 (fun H locs hP hD hS => ?_)
            have hP : va_P D vwCl (TbW dA ta (TB.s_rs t (va_up (shF t.rs i t.rc) i (some a1))) ++ (ws)) H := hP
            have hD : va_D A (TbW dA ta (TB.s_rs t (va_up (shF t.rs i t.rc) i (some a1))) ++ (ws)) := hD
            refine lv_iinc (k := 0) (v := nI (i - 1)) hx hb d_T_addRow_63 hl rfl (iincM (by omega)) (by decide) rfl (fun ls hl => ?_)
            have hl : lv_has ls 4 [(3, .int (nI (i - 1))), (2, .int (nI (plT NL t.nc t.rc RS S))), (0, .ref (ta 0)), (1, .ref a)] := hl
            refine lv_goto hx hb d_T_addRow_66 (tgt := 44) rfl ?_
            have e9 : (TB.s_rs t (va_up (shF t.rs i t.rc) i (some a1)) : TB) = TB.s_rs t (shF t.rs (i - 1) t.rc) := by rw [show (shF t.rs (i - 1) t.rc) = (va_up (shF t.rs i t.rc) i (some a1)) from (shF_s (by omega) i1 er1).symm] <;> rfl
            rw [e9] at hP hD
            exact ih44 _ (by omega) (i - 1) (by omega) (by omega) rfl H _ ls hP hD hS (lv_sub hl [0, 1, 2, 3] rfl)
      have e9 : (t : TB) = TB.s_rs t (shF t.rs t.rc t.rc) := by rw [show (shF t.rs t.rc t.rc) = t.rs from (shF_0 _ _)] <;> rfl
      rw [e9] at hP hD
      exact L44 _ t.rc (Nat.le_refl _) (by omega) rfl H _ ls hP hD hS (lv_sub hl [0, 1, 2, 3] rfl)
    · have g5 := mt (nI_leI (a := t.rc) (b := plT NL t.nc t.rc RS S) (by omega) (by omega)).mpr g5
      refine lv_aload_n hx hb d_T_addRow_24 rfl (lv_at hl 1 rfl) ?_
      refine lv_aload_n hx hb d_T_addRow_25 rfl (lv_at hl 1 rfl) ?_
      obtain ⟨a1, er1, hs1, ho1⟩ := hrs (plT NL t.nc t.rc RS S) (by omega)
      refine gF (v := .ref (ta 2)) hx hb hown hE hK hP 0 rfl rfl layT 4 (by decide) w787 rfl d_T_addRow_26 ?_
      refine lv_iload_n hx hb d_T_addRow_29 rfl (lv_at hl 0 rfl) ?_
      refine nqld (f := t.rs) (n := 256) hx hb hK hP (2) 5 rfl rfl (plT NL t.nc t.rc RS S) (by omega) (by decide) er1 d_T_addRow_30 ?_
      refine lv_aload_n hx hb d_T_addRow_31 rfl (lv_at hl 2 rfl) ?_
      refine jkI (wr := []) (rnV (As := [.ref a1, .ref a]) (rest := []) hx hb hml hown hE hK (hN _ _ hS) hP hD (v_TcompareTexts l D dA H.size ws ta t NL a1 (RS (plT NL t.nc t.rc RS S)) a S hnm hnc hs1 ho1 hsa hoa) (q0 := 0) rfl rfl w1421 w1420 w1422 w1423 w807 rfl rfl ⟨⟨by decide, by decide⟩, rfl⟩ ⟨(Nat.le_of_ble_eq_true rfl), (Nat.le_of_ble_eq_true rfl)⟩ rfl hl.1 rfl (Nat.le_of_ble_eq_true rfl) d_T_addRow_32 ⟨(Nat.le_of_ble_eq_true rfl), (Nat.le_of_ble_eq_true rfl)⟩) hP hD hS hA (fun r11 u12 H locs hp9 hP hD hS => ?_)
      have hP : va_P D vwCl (TbW dA ta t ++ (ws)) H := hP
      have hD : va_D A (TbW dA ta t ++ (ws)) := hD
      replace hp9 : cmT NL t.nc (RS (plT NL t.nc t.rc RS S)) S = r11 := Eq.symm hp9
      subst hp9
      refine lv_if_ne hx hb d_T_addRow_35 (tgt := 39) rfl (fun g13 => ?_) (fun g13 => ?_)
      · have g13 := g13
        refine lv_aload_n hx hb d_T_addRow_39 rfl (lv_at hl 1 rfl) ?_
        refine gF (v := .int (nI t.rc)) hx hb hown hE hK hP 0 rfl rfl layT 3 (by decide) w1368 rfl d_T_addRow_40 ?_
        refine lv_istore_n hx hb d_T_addRow_43 rfl hl (by decide) rfl (fun ls hl => ?_)
        have hl : lv_has ls 4 [(3, .int (nI t.rc)), (2, .int (nI (plT NL t.nc t.rc RS S))), (0, .ref (ta 0)), (1, .ref a)] := hl
        have L44 : ∀ (k9 : Nat) (i : Nat) (i1 : i ≤ t.rc) (i2 : plT NL t.nc t.rc RS S ≤ i) (hk9 : i = k9), ∀ (H : Heap) (locs : List Loc) (ls : Array Slot) (hP : va_P D vwCl (TbW dA ta (TB.s_rs t (shF t.rs i t.rc)) ++ (ws)) H) (hD : va_D A (TbW dA ta (TB.s_rs t (shF t.rs i t.rc)) ++ (ws))) (hS : va_S A s.heap H locs) (hl : lv_has ls 4 [(3, .int (nI i)), (2, .int (nI (plT NL t.nc t.rc RS S))), (0, .ref (ta 0)), (1, .ref a)]), W p l e ({ frames := 5, cells := 0, slots := 0, locals := 92 } : Room) s m ([.ref (ta 0), .ref a] : List Value).toArray below meth c H locs 0 0 (MQ below (va_Qv (fun (u9 : TB) => u9 = adT NL t RS S a) (fun (u9 : TB) t9 => bW D A (TbW dA ta u9 ++ (ws)) t9) A) ([.ref (ta 0), .ref a] : List Value).toArray s 0 0 A) (F0 m 44 ls []) := by
          intro k9
          induction k9 using Nat.strongRecOn with
          | ind k9 ih44 =>
            intro i i1 i2 hk9 H locs ls hP hD hS hl
            refine lv_iload_n hx hb d_T_addRow_44 rfl (lv_at hl 0 rfl) ?_
            refine lv_iload_n hx hb d_T_addRow_45 rfl (lv_at hl 1 rfl) ?_
            refine lv_icmp_le hx hb d_T_addRow_46 (tgt := 69) rfl (fun g14 => ?_) (fun g14 => ?_)
            · have g14 := (nI_leI (a := i) (b := plT NL t.nc t.rc RS S) (by omega) (by omega)).mp g14
              refine lv_aload_n hx hb d_T_addRow_69 rfl (lv_at hl 2 rfl) ?_
              refine gF (v := .ref (ta 2)) hx hb hown hE hK hP 0 rfl rfl layT 4 (by decide) w787 rfl d_T_addRow_70 ?_
              refine lv_iload_n hx hb d_T_addRow_73 rfl (lv_at hl 1 rfl) ?_
              refine lv_aload_n hx hb d_T_addRow_74 rfl (lv_at hl 3 rfl) ?_
              obtain ⟨qp15, ep16⟩ := List.getElem?_of_mem (show ((a, .inr (11, [.ref na0, .ref va0, .ref no0, .ref tx0])) : Nat × va_E) ∈ TbW dA ta (TB.s_rs t (shF t.rs i t.rc)) ++ (ws) from (List.mem_append_right _ j0))
              refine nqst (r := ("SeriesVault$Series", TS, 4)) (f := (shF t.rs i t.rc)) (n := 256) hx hb hK hP hD hS (2) 5 (qp15) 11 rfl rfl ep16 rfl (plT NL t.nc t.rc RS S) (by omega) (by decide) d_T_addRow_75 (fun H locs hP hD hS => ?_)
              have hP : va_P D vwCl (TbW dA ta (TB.s_rs t (va_up (shF t.rs i t.rc) (plT NL t.nc t.rc RS S) (some a))) ++ (ws)) H := hP
              have hD : va_D A (TbW dA ta (TB.s_rs t (va_up (shF t.rs i t.rc) (plT NL t.nc t.rc RS S) (some a))) ++ (ws)) := hD
              refine lv_aload_n hx hb d_T_addRow_76 rfl (lv_at hl 2 rfl) ?_
              refine lv_dup hx hb d_T_addRow_77 rfl ?_
              refine gF (v := .int (nI t.rc)) hx hb hown hE hK hP 0 rfl rfl layT 3 (by decide) w1368 rfl d_T_addRow_78 ?_
              refine lv_iconst (v := 1) hx hb d_T_addRow_81 (by decide) ?_
              refine lv_iadd hx hb d_T_addRow_82 (tpi (y := nI (t.rc + 1)) (nI_add (t.rc) (1)) ?_)
              refine pF (v := .int (nI (t.rc + 1))) hx hb hown hE hK hP hD hS 0 rfl rfl layT tyT tokT nmT 3 (by decide) w1368 rfl rfl rfl (Nat.le_of_ble_eq_true rfl) d_T_addRow_83 (fun H locs hP hD hS => ?_)
              have hP : va_P D vwCl (TbW dA ta (TB.s_rs (TB.s_rc t (t.rc + 1)) (va_up (shF t.rs i t.rc) (plT NL t.nc t.rc RS S) (some a))) ++ (ws)) H := hP
              have hD : va_D A (TbW dA ta (TB.s_rs (TB.s_rc t (t.rc + 1)) (va_up (shF t.rs i t.rc) (plT NL t.nc t.rc RS S) (some a))) ++ (ws)) := hD
              exact rfV hx hb hr hlk hS (TB.s_rs (TB.s_rc t (t.rc + 1)) (va_up (shF t.rs i t.rc) (plT NL t.nc t.rc RS S) (some a))) (by unfold adT; rw [if_neg (fun h => h.elim g4 (fun h => g13 h.2)), ← show i = plT NL t.nc t.rc RS S by omega]; rfl) hP hD (Nat.le_of_ble_eq_true rfl) (Nat.le_of_ble_eq_true rfl) d_T_addRow_86
            · have g14 := mt (nI_leI (a := i) (b := plT NL t.nc t.rc RS S) (by omega) (by omega)).mpr g14
              refine lv_aload_n hx hb d_T_addRow_49 rfl (lv_at hl 2 rfl) ?_
              refine gF (v := .ref (ta 2)) hx hb hown hE hK hP 0 rfl rfl layT 4 (by decide) w787 rfl d_T_addRow_50 ?_
              refine lv_iload_n hx hb d_T_addRow_53 rfl (lv_at hl 0 rfl) ?_
              refine lv_aload_n hx hb d_T_addRow_54 rfl (lv_at hl 2 rfl) ?_
              obtain ⟨a1, er1, hs1, ho1⟩ := hrs (i - 1) (by omega)
              have hs1c := hs1
              obtain ⟨na1, va1, no1, tx1, fn1, fv1, j1, -⟩ := hs1c
              refine gF (v := .ref (ta 2)) hx hb hown hE hK hP 0 rfl rfl layT 4 (by decide) w787 rfl d_T_addRow_55 ?_
              refine lv_iload_n hx hb d_T_addRow_58 rfl (lv_at hl 0 rfl) ?_
              refine lv_iconst (v := 1) hx hb d_T_addRow_59 (by decide) ?_
              refine lv_isub hx hb d_T_addRow_60 (tpi (y := nI (i - 1)) (pk_sub (a := i) (b := 1) (by omega)) ?_)
              refine nqld (f := (shF t.rs i t.rc)) (n := 256) hx hb hK hP (2) 5 rfl rfl (i - 1) (by omega) (by decide) ((shF_at (by omega)).trans er1) d_T_addRow_61 ?_
              obtain ⟨qp17, ep18⟩ := List.getElem?_of_mem (show ((a1, .inr (11, [.ref na1, .ref va1, .ref no1, .ref tx1])) : Nat × va_E) ∈ TbW dA ta (TB.s_rs t (shF t.rs i t.rc)) ++ (ws) from (List.mem_append_right _ j1))
              refine nqst (r := ("SeriesVault$Series", TS, 4)) (f := (shF t.rs i t.rc)) (n := 256) hx hb hK hP hD hS (2) 5 (qp17) 11 rfl rfl ep18 rfl (i) (by omega) (by decide) d_T_addRow_62 (fun H locs hP hD hS => ?_)
              have hP : va_P D vwCl (TbW dA ta (TB.s_rs t (va_up (shF t.rs i t.rc) i (some a1))) ++ (ws)) H := hP
              have hD : va_D A (TbW dA ta (TB.s_rs t (va_up (shF t.rs i t.rc) i (some a1))) ++ (ws)) := hD
              refine lv_iinc (k := 0) (v := nI (i - 1)) hx hb d_T_addRow_63 hl rfl (iincM (by omega)) (by decide) rfl (fun ls hl => ?_)
              have hl : lv_has ls 4 [(3, .int (nI (i - 1))), (2, .int (nI (plT NL t.nc t.rc RS S))), (0, .ref (ta 0)), (1, .ref a)] := hl
              refine lv_goto hx hb d_T_addRow_66 (tgt := 44) rfl ?_
              have e9 : (TB.s_rs t (va_up (shF t.rs i t.rc) i (some a1)) : TB) = TB.s_rs t (shF t.rs (i - 1) t.rc) := by rw [show (shF t.rs (i - 1) t.rc) = (va_up (shF t.rs i t.rc) i (some a1)) from (shF_s (by omega) i1 er1).symm] <;> rfl
              rw [e9] at hP hD
              exact ih44 _ (by omega) (i - 1) (by omega) (by omega) rfl H _ ls hP hD hS (lv_sub hl [0, 1, 2, 3] rfl)
        have e9 : (t : TB) = TB.s_rs t (shF t.rs t.rc t.rc) := by rw [show (shF t.rs t.rc t.rc) = t.rs from (shF_0 _ _)] <;> rfl
        rw [e9] at hP hD
        exact L44 _ t.rc (Nat.le_refl _) (by omega) rfl H _ ls hP hD hS (lv_sub hl [0, 1, 2, 3] rfl)
      · have g13 := g13
        exact rfV hx hb hr hlk hS t (by unfold adT; rw [if_pos (Or.inr ⟨Nat.not_le.mp g5, g13⟩)]) hP hD (Nat.le_of_ble_eq_true rfl) (Nat.le_of_ble_eq_true rfl) d_T_addRow_38
theorem d_T_makeNumber_0 : decode prog_11_method_2_code 0 = .ok (.aload_n 0, 1) := by decide +kernel
theorem d_T_makeNumber_1 : decode prog_11_method_2_code 1 = .ok (.iload_n 3, 1) := by decide +kernel
theorem d_T_makeNumber_2 : decode prog_11_method_2_code 2 = .ok (.putfield 30, 3) := by decide +kernel
theorem d_T_makeNumber_5 : decode prog_11_method_2_code 5 = .ok (.aload_n 0, 1) := by decide +kernel
theorem d_T_makeNumber_6 : decode prog_11_method_2_code 6 = .ok (.iconst 0, 1) := by decide +kernel
theorem d_T_makeNumber_7 : decode prog_11_method_2_code 7 = .ok (.putfield 34, 3) := by decide +kernel
theorem d_T_makeNumber_10 : decode prog_11_method_2_code 10 = .ok (.aload_n 0, 1) := by decide +kernel
theorem d_T_makeNumber_11 : decode prog_11_method_2_code 11 = .ok (.iconst 1, 1) := by decide +kernel
theorem d_T_makeNumber_12 : decode prog_11_method_2_code 12 = .ok (.putfield 37, 3) := by decide +kernel
theorem d_T_makeNumber_15 : decode prog_11_method_2_code 15 = .ok (.aload_n 0, 1) := by decide +kernel
theorem d_T_makeNumber_16 : decode prog_11_method_2_code 16 = .ok (.invokevirtual 40, 3) := by decide +kernel
theorem d_T_makeNumber_19 : decode prog_11_method_2_code 19 = .ok (.iconst 0, 1) := by decide +kernel
theorem d_T_makeNumber_20 : decode prog_11_method_2_code 20 = .ok (.istore 4, 2) := by decide +kernel
theorem d_T_makeNumber_22 : decode prog_11_method_2_code 22 = .ok (.iload 4, 2) := by decide +kernel
theorem d_T_makeNumber_24 : decode prog_11_method_2_code 24 = .ok (.iload_n 3, 1) := by decide +kernel
theorem d_T_makeNumber_25 : decode prog_11_method_2_code 25 = .ok (.if_icmp .ge 17, 3) := by decide +kernel
theorem d_T_makeNumber_42 : decode prog_11_method_2_code 42 = .ok (.return_, 1) := by decide +kernel
theorem d_T_makeNumber_28 : decode prog_11_method_2_code 28 = .ok (.aload_n 0, 1) := by decide +kernel
theorem d_T_makeNumber_29 : decode prog_11_method_2_code 29 = .ok (.iconst 0, 1) := by decide +kernel
theorem d_T_makeNumber_30 : decode prog_11_method_2_code 30 = .ok (.iload 4, 2) := by decide +kernel
theorem d_T_makeNumber_32 : decode prog_11_method_2_code 32 = .ok (.lload_n 1, 1) := by decide +kernel
theorem d_T_makeNumber_33 : decode prog_11_method_2_code 33 = .ok (.invokevirtual 43, 3) := by decide +kernel
theorem d_T_makeNumber_36 : decode prog_11_method_2_code 36 = .ok (.iinc 4 1, 3) := by decide +kernel
theorem d_T_makeNumber_39 : decode prog_11_method_2_code 39 = .ok (.goto (-17), 3) := by decide +kernel
theorem w1428 : Cond.methodLink "SeriesVault$Table" 40 ⟨"SeriesVault$Table", "clearCells", "()V"⟩ ∈ aW := aw_of (tb_7 (List.mem_of_getElem? (i := 144) rfl)) rfl
theorem w1429 : Cond.code ⟨"SeriesVault$Table", "clearCells", "()V"⟩ prog_11_method_8_code 2 none ∈ aW := aw_of (tb_7 (List.mem_of_getElem? (i := 147) rfl)) rfl
theorem w1430 : Cond.instanceMethod ⟨"SeriesVault$Table", "clearCells", "()V"⟩ ∈ aW := aw_of (tb_7 (List.mem_of_getElem? (i := 145) rfl)) rfl
theorem w1431 : Cond.selects "SeriesVault$Table" ⟨"SeriesVault$Table", "clearCells", "()V"⟩ ⟨"SeriesVault$Table", "clearCells", "()V"⟩ ∈ aW := aw_of (tb_7 (List.mem_of_getElem? (i := 146) rfl)) rfl
theorem w1432 : Cond.methodLink "SeriesVault$Table" 43 ⟨"SeriesVault$Table", "put", "(IIJ)V"⟩ ∈ aW := aw_of (tb_7 (List.mem_of_getElem? (i := 180) rfl)) rfl
theorem w1433 : Cond.code ⟨"SeriesVault$Table", "put", "(IIJ)V"⟩ prog_11_method_11_code 5 none ∈ aW := aw_of (tb_7 (List.mem_of_getElem? (i := 183) rfl)) rfl
theorem w1434 : Cond.instanceMethod ⟨"SeriesVault$Table", "put", "(IIJ)V"⟩ ∈ aW := aw_of (tb_7 (List.mem_of_getElem? (i := 181) rfl)) rfl
theorem w1435 : Cond.selects "SeriesVault$Table" ⟨"SeriesVault$Table", "put", "(IIJ)V"⟩ ⟨"SeriesVault$Table", "put", "(IIJ)V"⟩ ∈ aW := aw_of (tb_7 (List.mem_of_getElem? (i := 182) rfl)) rfl
set_option maxHeartbeats 4000000 in
set_option maxRecDepth 100000 in
theorem v_TmakeNumber (l : Launch) (D : va_G) (dA : Nat → ClassId) (sz : Nat) (ws : va_W) (ta : Nat → Nat) (t : TB) (v : Int64) (n : Nat) (hcN : t.cN ≤ 65536) (h1 : n ≤ 64) (h2 : 64 ≤ t.cN) : Met l ⟨"SeriesVault$Table", "makeNumber", "(JI)V"⟩ [Cond.code ⟨"SeriesVault$Table", "makeNumber", "(JI)V"⟩ prog_11_method_2_code 5 none] { frames := 4, cells := 0, slots := 0, locals := 68 } (pC D dA [.ref (ta 0), .long v, .int (nI n)] (TbW dA ta t ++ (ws)) sz) (va_Qv (fun (u9 : TB) => u9 = t.num v n) (fun (u9 : TB) t9 => bW D (va_A (TbW dA ta t ++ (ws)) sz) (TbW dA ta u9 ++ (ws)) t9) (va_A (TbW dA ta t ++ (ws)) sz)) 0 0 (va_A (TbW dA ta t ++ (ws)) sz) := by
  refine mkC (y := ⟨"SeriesVault$Table", "makeNumber", "(JI)V"⟩) (cc := prog_11_method_2_code) (maxL := 5) (av := [.ref (ta 0), .long v, .int (nI n)]) (ws := TbW dA ta t ++ (ws)) (sz := sz) (Qc := fun A => va_Qv (fun (u9 : TB) => u9 = t.num v n) (fun (u9 : TB) t9 => bW D A (TbW dA ta u9 ++ (ws)) t9) A) (by decide) (Nat.le_of_ble_eq_true rfl) ?_
  intro A p e s m below meth c ls hsz hB
  obtain ⟨hx, hb, hr, hml, hown, hin, hlk, hE, hK, hP, hD, hS, hA, hN, hl⟩ := hB
  have hown : s.vm.findClass "SeriesVault$Table" = some m.cls := hown
  have hl : lv_has ls 5 [(0, .ref (ta 0)), (1, .long v), (3, .int (nI n))] := hl
  obtain ⟨H, hH⟩ : ∃ z, z = s.heap := ⟨_, rfl⟩
  have hP : va_P D vwCl (TbW dA ta t ++ (ws)) H := by rw [hH]; exact hP
  have hS : va_S A s.heap H [] := by rw [hH]; exact hS
  rw [← hH]
  refine lv_aload_n hx hb d_T_makeNumber_0 rfl (lv_at hl 0 rfl) ?_
  refine lv_iload_n hx hb d_T_makeNumber_1 rfl (lv_at hl 2 rfl) ?_
  refine pF (v := .int (nI n)) hx hb hown hE hK hP hD hS 0 rfl rfl layT tyT tokT nmT 2 (by decide) w1367 rfl rfl rfl (Nat.le_of_ble_eq_true rfl) d_T_makeNumber_2 (fun H locs hP hD hS => ?_)
  have hP : va_P D vwCl (TbW dA ta (TB.s_wi t n) ++ (ws)) H := hP
  have hD : va_D A (TbW dA ta (TB.s_wi t n) ++ (ws)) := hD
  refine lv_aload_n hx hb d_T_makeNumber_5 rfl (lv_at hl 0 rfl) ?_
  refine lv_iconst (v := 0) hx hb d_T_makeNumber_6 (by decide) ?_
  refine pF (v := .int (nI 0)) hx hb hown hE hK hP hD hS 0 rfl rfl layT tyT tokT nmT 1 (by decide) w1376 rfl rfl rfl (Nat.le_of_ble_eq_true rfl) d_T_makeNumber_7 (fun H locs hP hD hS => ?_)
  have hP : va_P D vwCl (TbW dA ta (TB.s_wi (TB.s_nc t 0) n) ++ (ws)) H := hP
  have hD : va_D A (TbW dA ta (TB.s_wi (TB.s_nc t 0) n) ++ (ws)) := hD
  refine lv_aload_n hx hb d_T_makeNumber_10 rfl (lv_at hl 0 rfl) ?_
  refine lv_iconst (v := 1) hx hb d_T_makeNumber_11 (by decide) ?_
  refine pF (v := .int (nI 1)) hx hb hown hE hK hP hD hS 0 rfl rfl layT tyT tokT nmT 3 (by decide) w1368 rfl rfl rfl (Nat.le_of_ble_eq_true rfl) d_T_makeNumber_12 (fun H locs hP hD hS => ?_)
  have hP : va_P D vwCl (TbW dA ta (TB.s_rc (TB.s_wi (TB.s_nc t 0) n) 1) ++ (ws)) H := hP
  have hD : va_D A (TbW dA ta (TB.s_rc (TB.s_wi (TB.s_nc t 0) n) 1) ++ (ws)) := hD
  refine lv_aload_n hx hb d_T_makeNumber_15 rfl (lv_at hl 0 rfl) ?_
  refine jkV (wr := []) (rnV (As := []) (rest := []) hx hb hml hown hE hK (hN _ _ hS) hP hD (v_TclearCells_0 l D dA H.size ws ta (TB.s_rc (TB.s_wi (TB.s_nc t 0) n) 1) hcN (show 1 * n ≤ t.cN by omega) (show 1 ≤ 256 from by omega)) (q0 := 0) rfl rfl w1429 w1428 w1430 w1431 w807 rfl rfl ⟨⟨by decide, by decide⟩, rfl⟩ ⟨(Nat.le_of_ble_eq_true rfl), (Nat.le_of_ble_eq_true rfl)⟩ rfl hl.1 rfl (Nat.le_of_ble_eq_true rfl) d_T_makeNumber_16 ⟨(Nat.le_of_ble_eq_true rfl), (Nat.le_of_ble_eq_true rfl)⟩) hP hD hS hA (fun u2 H locs hp9 hP hD hS => ?_)
  have hP : va_P D vwCl (TbW dA ta (TB.s_ce (TB.s_th (TB.s_rc (TB.s_wi (TB.s_nc t 0) n) 1) (filG t.th 0 0 1)) (filG t.ce 0 0 (1 * n))) ++ (ws)) H := hP
  have hD : va_D A (TbW dA ta (TB.s_ce (TB.s_th (TB.s_rc (TB.s_wi (TB.s_nc t 0) n) 1) (filG t.th 0 0 1)) (filG t.ce 0 0 (1 * n))) ++ (ws)) := hD
  refine lv_iconst (v := 0) hx hb d_T_makeNumber_19 (by decide) ?_
  refine lv_istore hx hb d_T_makeNumber_20 hl (by decide) rfl (fun ls hl => ?_)
  have hl : lv_has ls 5 [(4, .int 0), (0, .ref (ta 0)), (1, .long v), (3, .int (nI n))] := hl
  have L22 : ∀ (k9 : Nat) (w : Nat) (z : TB) (i1 : w ≤ n) (ez : z = mkG (TB.cl (TB.s_rc (TB.s_wi (TB.s_nc t 0) n) 1)) v w) (hk9 : n - w = k9), ∀ (H : Heap) (locs : List Loc) (ls : Array Slot) (hP : va_P D vwCl (TbW dA ta z ++ (ws)) H) (hD : va_D A (TbW dA ta z ++ (ws))) (hS : va_S A s.heap H locs) (hl : lv_has ls 5 [(4, .int (nI w)), (1, .long v), (3, .int (nI n)), (0, .ref (ta 0))]), W p l e ({ frames := 4, cells := 0, slots := 0, locals := 68 } : Room) s m ([.ref (ta 0), .long v, .int (nI n)] : List Value).toArray below meth c H locs 0 0 (MQ below (va_Qv (fun (u9 : TB) => u9 = t.num v n) (fun (u9 : TB) t9 => bW D A (TbW dA ta u9 ++ (ws)) t9) A) ([.ref (ta 0), .long v, .int (nI n)] : List Value).toArray s 0 0 A) (F0 m 22 ls []) := by
    intro k9
    induction k9 using Nat.strongRecOn with
    | ind k9 ih22 =>
      intro w z i1 ez hk9 H locs ls hP hD hS hl
      have zk := mkG_k (TB.cl (TB.s_rc (TB.s_wi (TB.s_nc t 0) n) 1)) v w
      rw [← ez] at zk
      obtain ⟨k1, k2, k3, k4⟩ := zk
      have k1 : z.wi = n := k1
      have k3 : z.cN = t.cN := k3
      refine lv_iload hx hb d_T_makeNumber_22 (lv_at hl 0 rfl) ?_
      refine lv_iload_n hx hb d_T_makeNumber_24 rfl (lv_at hl 2 rfl) ?_
      refine lv_icmp_ge hx hb d_T_makeNumber_25 (tgt := 42) rfl (fun g3 => ?_) (fun g3 => ?_)
      · have g3 := (nI_leI (a := n) (b := w) (by omega) (by omega)).mp g3
        exact rfV hx hb hr hlk hS z (by rw [ez, show w = n by omega]; rfl) hP hD (Nat.le_of_ble_eq_true rfl) (Nat.le_of_ble_eq_true rfl) d_T_makeNumber_42
      · have g3 := mt (nI_leI (a := n) (b := w) (by omega) (by omega)).mpr g3
        refine lv_aload_n hx hb d_T_makeNumber_28 rfl (lv_at hl 3 rfl) ?_
        refine lv_iconst (v := 0) hx hb d_T_makeNumber_29 (by decide) ?_
        refine lv_iload hx hb d_T_makeNumber_30 (lv_at hl 0 rfl) ?_
        refine lv_lload_n hx hb d_T_makeNumber_32 rfl (lv_at hl 1 rfl) ?_
        refine jkV (wr := []) (rnV (As := [.int 0, .int (nI w), .long v]) (rest := []) hx hb hml hown hE hK (hN _ _ hS) hP hD (v_Tput l D dA H.size ws ta z 0 w v (show z.cN ≤ 65536 by omega) (by rw [k1, k3]; omega) (show 0 < 256 from by omega)) (q0 := 0) rfl rfl w1433 w1432 w1434 w1435 w807 rfl rfl ⟨⟨by decide, by decide⟩, rfl⟩ ⟨(Nat.le_of_ble_eq_true rfl), (Nat.le_of_ble_eq_true rfl)⟩ rfl hl.1 rfl (Nat.le_of_ble_eq_true rfl) d_T_makeNumber_33 ⟨(Nat.le_of_ble_eq_true rfl), (Nat.le_of_ble_eq_true rfl)⟩) hP hD hS hA (fun u5 H locs hp9 hP hD hS => ?_)
        have hP : va_P D vwCl (TbW dA ta (TB.s_ce (TB.s_th z (va_up z.th 0 (z.th 0 ||| bitL w))) (va_up z.ce (0 * z.wi + w) v)) ++ (ws)) H := hP
        have hD : va_D A (TbW dA ta (TB.s_ce (TB.s_th z (va_up z.th 0 (z.th 0 ||| bitL w))) (va_up z.ce (0 * z.wi + w) v)) ++ (ws)) := hD
        refine lv_iinc (k := 0) (v := nI (w + 1)) hx hb d_T_makeNumber_36 hl rfl (iincN (w) 1 1 (by decide)) (by decide) rfl (fun ls hl => ?_)
        have hl : lv_has ls 5 [(4, .int (nI (w + 1))), (1, .long v), (3, .int (nI n)), (0, .ref (ta 0))] := hl
        refine lv_goto hx hb d_T_makeNumber_39 (tgt := 22) rfl ?_
        exact ih22 _ (by omega) (w + 1) (TB.s_ce (TB.s_th z (va_up z.th 0 (z.th 0 ||| bitL w))) (va_up z.ce (0 * z.wi + w) v)) (by omega) (by rw [ez]; rfl) rfl H _ ls hP hD hS (lv_sub hl [0, 1, 2, 3] rfl)
  exact L22 _ 0 (TB.s_ce (TB.s_th (TB.s_rc (TB.s_wi (TB.s_nc t 0) n) 1) (filG t.th 0 0 1)) (filG t.ce 0 0 (1 * n))) (Nat.zero_le _) rfl rfl H _ ls hP hD hS (lv_sub hl [0, 2, 3, 1] rfl)
