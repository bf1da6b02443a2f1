section
/-! Rows of a table by their texts. -/
def rsOk (dA : Nat → ClassId) (ws : va_W) (rs : Nat → Option Nat) (n : Nat) (RS : Nat → List LB) : Prop := ∀ q, q < n → ∃ a : Nat, rs q = some a ∧ isSer dA ws a (RS q) ∧ serOk (RS q)
theorem rsOk_m {dA : Nat → ClassId} {ws ws' : va_W} {rs : Nat → Option Nat} {n : Nat} {RS : Nat → List LB} (hs : ∀ c, c ∈ ws → c ∈ ws') (h : rsOk dA ws rs n RS) : rsOk dA ws' rs n RS := by
  intro k hk
  obtain ⟨a, h1, h2, h3⟩ := h k hk
  exact ⟨a, h1, isSer_m hs h2, h3⟩
theorem rsAll_m {dA : Nat → ClassId} {ws ws' : va_W} {rs : Nat → Option Nat} (hs : ∀ c, c ∈ ws → c ∈ ws') (h : rsAll dA ws rs) : rsAll dA ws' rs := by
  intro q a hq
  obtain ⟨S, h1, h2⟩ := h q a hq
  exact ⟨S, isSer_m hs h1, h2⟩
def ltT (NL : Nat → List Int32) (n : Nat) (RS : Nat → List LB) (S : List LB) (q : Nat) : Bool := !decide (0 ≤ cmT NL n (RS q) S)
def plT (NL : Nat → List Int32) (n rc : Nat) (RS : Nat → List LB) (S : List LB) : Nat := bsG (ltT NL n RS S) rc 9 256 0
section BS
variable {lt : Nat → Bool} {rc f st b : Nat}
theorem bs_y (hf : 0 < f) (h1 : b + st ≤ rc) (h2 : lt (b + st - 1) = true) : bsG lt rc f st b = bsG lt rc (f - 1) (st / 2) (b + st) := by
  obtain ⟨f, rfl⟩ : ∃ g, f = g + 1 := ⟨f - 1, by omega⟩
  show bsG lt rc f (st / 2) (if _ then _ else _) = _
  rw [if_pos ⟨h1, h2⟩]; rfl
theorem bs_n1 (hf : 0 < f) (h1 : rc < b + st) : bsG lt rc f st b = bsG lt rc (f - 1) (st / 2) b := by
  obtain ⟨f, rfl⟩ : ∃ g, f = g + 1 := ⟨f - 1, by omega⟩
  show bsG lt rc f (st / 2) (if _ then _ else _) = _
  rw [if_neg (fun h => by omega)]; rfl
theorem bs_n2 (hf : 0 < f) (h2 : lt (b + st - 1) = false) : bsG lt rc f st b = bsG lt rc (f - 1) (st / 2) b := by
  obtain ⟨f, rfl⟩ : ∃ g, f = g + 1 := ⟨f - 1, by omega⟩
  show bsG lt rc f (st / 2) (if _ then _ else _) = _
  rw [if_neg (fun h => by rw [h2] at h; exact absurd h.2 (by decide))]; rfl
theorem hp_f (h : st = 2 ^ f / 2) (h0 : ¬ st ≤ 0) : 0 < f := by
  cases f with
  | zero => exact absurd (h ▸ (by decide : 2 ^ 0 / 2 ≤ 0)) h0
  | succ f => omega
theorem hp_s (h : st = 2 ^ f / 2) (h0 : ¬ st ≤ 0) : st / 2 = 2 ^ (f - 1) / 2 := by
  obtain ⟨f, rfl⟩ : ∃ g, f = g + 1 := ⟨f - 1, by have := hp_f h h0; omega⟩
  rw [h, Nat.pow_succ, Nat.mul_div_cancel _ (by decide : 0 < 2)]; rfl
theorem hp_z (h : st = 2 ^ f / 2) (h0 : st ≤ 0) : f = 0 := by
  cases f with
  | zero => rfl
  | succ f =>
    rw [Nat.pow_succ, Nat.mul_div_cancel _ (by decide : 0 < 2)] at h
    have := Nat.two_pow_pos f
    omega
end BS
def roT (NL : Nat → List Int32) (n rc : Nat) (RS : Nat → List LB) (S : List LB) : Int32 := if plT NL n rc RS S < rc ∧ cmT NL n (RS (plT NL n rc RS S)) S = 0 then nI (plT NL n rc RS S) else -1
def shF (rs : Nat → Option Nat) (i n : Nat) : Nat → Option Nat := fun q => if i < q ∧ q ≤ n then rs (q - 1) else rs q
theorem shF_0 (rs : Nat → Option Nat) (n : Nat) : shF rs n n = rs := by
  funext q; unfold shF; rw [if_neg (by omega)]
theorem shF_at {rs : Nat → Option Nat} {i n q : Nat} (h : q ≤ i) : shF rs i n q = rs q := by
  unfold shF; rw [if_neg (by omega)]
theorem shF_s {rs : Nat → Option Nat} {i n : Nat} {o : Option Nat} (h : 0 < i) (hn : i ≤ n) (ho : rs (i - 1) = o) : va_up (shF rs i n) i o = shF rs (i - 1) n := by
  subst ho
  funext q
  unfold va_up shF
  by_cases e : q = i
  · subst e; rw [if_pos rfl, if_pos (by omega)]
  · rw [if_neg e]
    by_cases e2 : i < q ∧ q ≤ n
    · rw [if_pos e2, if_pos (by omega)]
    · rw [if_neg e2, if_neg (by omega)]
def TB.adR (t : TB) (p a : Nat) : TB := TB.s_rc (TB.s_rs t (va_up (shF t.rs p t.rc) p (some a))) (t.rc + 1)
def adT (NL : Nat → List Int32) (t : TB) (RS : Nat → List LB) (S : List LB) (a : Nat) : TB := if t.rc = 256 ∨ (plT NL t.nc t.rc RS S < t.rc ∧ cmT NL t.nc (RS (plT NL t.nc t.rc RS S)) S = 0) then t else t.adR (plT NL t.nc t.rc RS S) a
/-- a number's table -/
def TB.pt (t : TB) (r w : Nat) (v : Int64) : TB := TB.s_ce (TB.s_th t (va_up t.th r (t.th r ||| bitL w))) (va_up t.ce (r * t.wi + w) v)
def mkG (t : TB) (v : Int64) : Nat → TB
  | 0 => t
  | k + 1 => (mkG t v k).pt 0 k v
theorem mkG_k (t : TB) (v : Int64) : ∀ k, (mkG t v k).wi = t.wi ∧ (mkG t v k).rc = t.rc ∧ (mkG t v k).cN = t.cN ∧ (mkG t v k).cA = t.cA
  | 0 => ⟨rfl, rfl, rfl, rfl⟩
  | k + 1 => mkG_k t v k
def TB.cl (t : TB) : TB := TB.s_ce (TB.s_th t (filG t.th 0 0 t.rc)) (filG t.ce 0 0 (t.rc * t.wi))
def TB.num (t : TB) (v : Int64) (n : Nat) : TB := mkG (TB.cl (TB.s_rc (TB.s_wi (TB.s_nc t 0) n) 1)) v n
theorem d_T_placeOf_0 : decode prog_11_method_4_code 0 = .ok (.iconst 0, 1) := by decide +kernel
theorem d_T_placeOf_1 : decode prog_11_method_4_code 1 = .ok (.istore_n 2, 1) := by decide +kernel
theorem d_T_placeOf_2 : decode prog_11_method_4_code 2 = .ok (.sipush 256, 3) := by decide +kernel
theorem d_T_placeOf_5 : decode prog_11_method_4_code 5 = .ok (.istore_n 3, 1) := by decide +kernel
theorem d_T_placeOf_6 : decode prog_11_method_4_code 6 = .ok (.iload_n 3, 1) := by decide +kernel
theorem d_T_placeOf_7 : decode prog_11_method_4_code 7 = .ok (.ifCond .le 44, 3) := by decide +kernel
theorem d_T_placeOf_51 : decode prog_11_method_4_code 51 = .ok (.iload_n 2, 1) := by decide +kernel
theorem d_T_placeOf_52 : decode prog_11_method_4_code 52 = .ok (.ireturn, 1) := by decide +kernel
theorem d_T_placeOf_10 : decode prog_11_method_4_code 10 = .ok (.iload_n 2, 1) := by decide +kernel
theorem d_T_placeOf_11 : decode prog_11_method_4_code 11 = .ok (.iload_n 3, 1) := by decide +kernel
theorem d_T_placeOf_12 : decode prog_11_method_4_code 12 = .ok (.iadd, 1) := by decide +kernel
theorem d_T_placeOf_13 : decode prog_11_method_4_code 13 = .ok (.istore 4, 2) := by decide +kernel
theorem d_T_placeOf_15 : decode prog_11_method_4_code 15 = .ok (.iload 4, 2) := by decide +kernel
theorem d_T_placeOf_17 : decode prog_11_method_4_code 17 = .ok (.aload_n 0, 1) := by decide +kernel
theorem d_T_placeOf_18 : decode prog_11_method_4_code 18 = .ok (.getfield 37, 3) := by decide +kernel
theorem d_T_placeOf_21 : decode prog_11_method_4_code 21 = .ok (.if_icmp .gt 23, 3) := by decide +kernel
theorem d_T_placeOf_44 : decode prog_11_method_4_code 44 = .ok (.iload_n 3, 1) := by decide +kernel
theorem d_T_placeOf_45 : decode prog_11_method_4_code 45 = .ok (.iconst 2, 1) := by decide +kernel
theorem d_T_placeOf_46 : decode prog_11_method_4_code 46 = .ok (.idiv, 1) := by decide +kernel
theorem d_T_placeOf_47 : decode prog_11_method_4_code 47 = .ok (.istore_n 3, 1) := by decide +kernel
theorem d_T_placeOf_48 : decode prog_11_method_4_code 48 = .ok (.goto (-42), 3) := by decide +kernel
theorem d_T_placeOf_24 : decode prog_11_method_4_code 24 = .ok (.aload_n 0, 1) := by decide +kernel
theorem d_T_placeOf_25 : decode prog_11_method_4_code 25 = .ok (.aload_n 0, 1) := by decide +kernel
theorem d_T_placeOf_26 : decode prog_11_method_4_code 26 = .ok (.getfield 19, 3) := by decide +kernel
theorem d_T_placeOf_29 : decode prog_11_method_4_code 29 = .ok (.iload 4, 2) := by decide +kernel
theorem d_T_placeOf_31 : decode prog_11_method_4_code 31 = .ok (.iconst 1, 1) := by decide +kernel
theorem d_T_placeOf_32 : decode prog_11_method_4_code 32 = .ok (.isub, 1) := by decide +kernel
theorem d_T_placeOf_33 : decode prog_11_method_4_code 33 = .ok (.aaload, 1) := by decide +kernel
theorem d_T_placeOf_34 : decode prog_11_method_4_code 34 = .ok (.aload_n 1, 1) := by decide +kernel
theorem d_T_placeOf_35 : decode prog_11_method_4_code 35 = .ok (.invokevirtual 51, 3) := by decide +kernel
theorem d_T_placeOf_38 : decode prog_11_method_4_code 38 = .ok (.ifCond .ge 6, 3) := by decide +kernel
theorem d_T_placeOf_41 : decode prog_11_method_4_code 41 = .ok (.iload 4, 2) := by decide +kernel
theorem d_T_placeOf_43 : decode prog_11_method_4_code 43 = .ok (.istore_n 2, 1) := by decide +kernel
theorem w1420 : Cond.methodLink "SeriesVault$Table" 51 ⟨"SeriesVault$Table", "compareTexts", "(LSeriesVault$Series;LSeriesVault$Series;)I"⟩ ∈ aW := aw_of (tb_7 (List.mem_of_getElem? (i := 217) rfl)) rfl
theorem w1421 : Cond.code ⟨"SeriesVault$Table", "compareTexts", "(LSeriesVault$Series;LSeriesVault$Series;)I"⟩ prog_11_method_7_code 5 (some FieldType.int) ∈ aW := aw_of (tb_7 (List.mem_of_getElem? (i := 220) rfl)) rfl
theorem w1422 : Cond.instanceMethod ⟨"SeriesVault$Table", "compareTexts", "(LSeriesVault$Series;LSeriesVault$Series;)I"⟩ ∈ aW := aw_of (tb_7 (List.mem_of_getElem? (i := 219) rfl)) rfl
theorem w1423 : Cond.selects "SeriesVault$Table" ⟨"SeriesVault$Table", "compareTexts", "(LSeriesVault$Series;LSeriesVault$Series;)I"⟩ ⟨"SeriesVault$Table", "compareTexts", "(LSeriesVault$Series;LSeriesVault$Series;)I"⟩ ∈ aW := aw_pr (List.mem_map.mpr ⟨_, pv_4 (List.mem_of_getElem? (i := 6) rfl), rfl⟩) rfl
set_option maxHeartbeats 4000000 in
set_option maxRecDepth 100000 in
theorem v_TplaceOf (l : Launch) (D : va_G) (dA : Nat → ClassId) (sz : Nat) (ws : va_W) (ta : Nat → Nat) (t : TB) (NL : Nat → List Int32) (RS : Nat → List LB) (a : Nat) (S : List LB) (hnm : nmOk dA ws t.nm t.nc NL) (hnc : t.nc ≤ 6) (hrs : rsOk dA ws t.rs t.rc RS) (hsa : isSer dA ws a S) (hoa : serOk S) (h1 : t.rc ≤ 256) : Met l ⟨"SeriesVault$Table", "placeOf", "(LSeriesVault$Series;)I"⟩ [Cond.code ⟨"SeriesVault$Table", "placeOf", "(LSeriesVault$Series;)I"⟩ prog_11_method_4_code 5 (some FieldType.int)] { frames := 4, cells := 0, slots := 0, locals := 68 } (pC D dA [.ref (ta 0), .ref a] (TbW dA ta t ++ (ws)) sz) (va_Qi (fun (r9 : Int32) (u9 : Unit) => r9 = nI (plT NL t.nc t.rc RS S) ∧ plT NL t.nc t.rc RS S ≤ t.rc) (fun (u9 : Unit) t9 => bW D (va_A (TbW dA ta t ++ (ws)) sz) (TbW dA ta t ++ (ws)) t9) (va_A (TbW dA ta t ++ (ws)) sz)) 0 0 (va_A (TbW dA ta t ++ (ws)) sz) := by
  refine mkC (y := ⟨"SeriesVault$Table", "placeOf", "(LSeriesVault$Series;)I"⟩) (cc := prog_11_method_4_code) (maxL := 5) (av := [.ref (ta 0), .ref a]) (ws := TbW dA ta t ++ (ws)) (sz := sz) (Qc := fun A => va_Qi (fun (r9 : Int32) (u9 : Unit) => r9 = nI (plT NL t.nc t.rc RS S) ∧ plT NL t.nc t.rc RS S ≤ t.rc) (fun (u9 : Unit) t9 => bW D A (TbW dA ta t ++ (ws)) t9) A) (by decide) (Nat.le_of_ble_eq_true rfl) ?_
  intro A p e s m below meth c ls hsz hB
  obtain ⟨hx, hb, hr, hml, hown, hin, hlk, hE, hK, hP, hD, hS, hA, hN, hl⟩ := hB
  have hown : s.vm.findClass "SeriesVault$Table" = some m.cls := hown
  have hl : lv_has ls 5 [(0, .ref (ta 0)), (1, .ref a)] := hl
  obtain ⟨H, hH⟩ : ∃ z, z = s.heap := ⟨_, rfl⟩
  have hP : va_P D vwCl (TbW dA ta t ++ (ws)) H := by rw [hH]; exact hP
  have hS : va_S A s.heap H [] := by rw [hH]; exact hS
  rw [← hH]
  refine lv_iconst (v := 0) hx hb d_T_placeOf_0 (by decide) ?_
  refine lv_istore_n hx hb d_T_placeOf_1 rfl hl (by decide) rfl (fun ls hl => ?_)
  have hl : lv_has ls 5 [(2, .int 0), (0, .ref (ta 0)), (1, .ref a)] := hl
  refine lv_sipush (v := 256) hx hb d_T_placeOf_2 (by decide) ?_
  refine lv_istore_n hx hb d_T_placeOf_5 rfl hl (by decide) rfl (fun ls hl => ?_)
  have hl : lv_has ls 5 [(3, .int 256), (2, .int 0), (0, .ref (ta 0)), (1, .ref a)] := hl
  have L6 : ∀ (k9 : Nat) (b : Nat) (st : Nat) (f : Nat) (i1 : b ≤ t.rc) (i2 : st = 2 ^ f / 2) (i4 : st ≤ 256) (i3 : bsG (ltT NL t.nc RS S) t.rc f st b = plT NL t.nc t.rc RS S) (hk9 : f = k9), ∀ (H : Heap) (locs : List Loc) (ls : Array Slot) (hP : va_P D vwCl (TbW dA ta t ++ (ws)) H) (hD : va_D A (TbW dA ta t ++ (ws))) (hS : va_S A s.heap H locs) (hl : lv_has ls 5 [(2, .int (nI b)), (3, .int (nI st)), (0, .ref (ta 0)), (1, .ref a)]), W p l e ({ frames := 4, cells := 0, slots := 0, locals := 68 } : Room) s m ([.ref (ta 0), .ref a] : List Value).toArray below meth c H locs 0 0 (MQ below (va_Qi (fun (r9 : Int32) (u9 : Unit) => r9 = nI (plT NL t.nc t.rc RS S) ∧ plT NL t.nc t.rc RS S ≤ t.rc) (fun (u9 : Unit) t9 => bW D A (TbW dA ta t ++ (ws)) t9) A) ([.ref (ta 0), .ref a] : List Value).toArray s 0 0 A) (F0 m 6 ls []) := by
    intro k9
    induction k9 using Nat.strongRecOn with
    | ind k9 ih6 =>
      intro b st f i1 i2 i4 i3 hk9 H locs ls hP hD hS hl
      refine lv_iload_n hx hb d_T_placeOf_6 rfl (lv_at hl 1 rfl) ?_
      refine lv_if_le hx hb d_T_placeOf_7 (tgt := 51) rfl (fun g1 => ?_) (fun g1 => ?_)
      · have g1 := (nI_leI (a := st) (b := 0) (by omega) (by decide)).mp g1
        refine lv_iload_n hx hb d_T_placeOf_51 rfl (lv_at hl 0 rfl) ?_
        exact rfI hx hb hr hlk hS () (have e8 : plT NL t.nc t.rc RS S = b := by { rw [← i3, hp_z i2 g1]; rfl }; ⟨by rw [e8], by rw [e8]; exact i1⟩) hP hD (Nat.le_of_ble_eq_true rfl) (Nat.le_of_ble_eq_true rfl) d_T_placeOf_52
      · have g1 := mt (nI_leI (a := st) (b := 0) (by omega) (by decide)).mpr g1
        refine lv_iload_n hx hb d_T_placeOf_10 rfl (lv_at hl 0 rfl) ?_
        refine lv_iload_n hx hb d_T_placeOf_11 rfl (lv_at hl 1 rfl) ?_
        refine lv_iadd hx hb d_T_placeOf_12 (tpi (y := nI (b + st)) (nI_add (b) (st)) ?_)
        refine lv_istore hx hb d_T_placeOf_13 hl (by decide) rfl (fun ls hl => ?_)
        have hl : lv_has ls 5 [(4, .int (nI (b + st))), (2, .int (nI b)), (3, .int (nI st)), (0, .ref (ta 0)), (1, .ref a)] := hl
        refine lv_iload hx hb d_T_placeOf_15 (lv_at hl 0 rfl) ?_
        refine lv_aload_n hx hb d_T_placeOf_17 rfl (lv_at hl 3 rfl) ?_
        refine gF (v := .int (nI t.rc)) hx hb hown hE hK hP 0 rfl rfl layT 3 (by decide) w1368 rfl d_T_placeOf_18 ?_
        refine lv_icmp_gt hx hb d_T_placeOf_21 (tgt := 44) rfl (fun g2 => ?_) (fun g2 => ?_)
        · have g2 := (nI_ltI (a := t.rc) (b := b + st) (by omega) (by omega)).mp g2
          refine lv_iload_n hx hb d_T_placeOf_44 rfl (lv_at hl 2 rfl) ?_
          refine lv_iconst (v := 2) hx hb d_T_placeOf_45 (by decide) ?_
          refine lv_idiv hx hb d_T_placeOf_46 (by decide) (tpi (y := nI (st / 2)) (pk_div (a := st) (d := 2) (by omega) (by omega) (by omega)) ?_)
          refine lv_istore_n hx hb d_T_placeOf_47 rfl hl (by decide) rfl (fun ls hl => ?_)
          have hl : lv_has ls 5 [(3, .int (nI (st / 2))), (4, .int (nI (b + st))), (2, .int (nI b)), (0, .ref (ta 0)), (1, .ref a)] := hl
          refine lv_goto hx hb d_T_placeOf_48 (tgt := 6) rfl ?_
          exact ih6 _ (by have := hp_f i2 g1; omega) b (st / 2) (f - 1) (by omega) (hp_s i2 g1) (by omega) (by rw [← i3, bs_n1 (hp_f i2 g1) g2]) rfl H _ ls hP hD hS (lv_sub hl [2, 0, 3, 4] rfl)
        · have g2 := mt (nI_ltI (a := t.rc) (b := b + st) (by omega) (by omega)).mpr g2
          refine lv_aload_n hx hb d_T_placeOf_24 rfl (lv_at hl 3 rfl) ?_
          refine lv_aload_n hx hb d_T_placeOf_25 rfl (lv_at hl 3 rfl) ?_
          obtain ⟨a1, er1, hs1, ho1⟩ := hrs (b + st - 1) (by omega)
          refine gF (v := .ref (ta 2)) hx hb hown hE hK hP 0 rfl rfl layT 4 (by decide) w787 rfl d_T_placeOf_26 ?_
          refine lv_iload hx hb d_T_placeOf_29 (lv_at hl 0 rfl) ?_
          refine lv_iconst (v := 1) hx hb d_T_placeOf_31 (by decide) ?_
          refine lv_isub hx hb d_T_placeOf_32 (tpi (y := nI ((b + st) - 1)) (pk_sub (a := b + st) (b := 1) (by omega)) ?_)
          refine nqld (f := t.rs) (n := 256) hx hb hK hP (2) 5 rfl rfl ((b + st) - 1) (by omega) (by decide) er1 d_T_placeOf_33 ?_
          refine lv_aload_n hx hb d_T_placeOf_34 rfl (lv_at hl 4 rfl) ?_
          refine jkI (wr := []) (rnV (As := [.ref a1, .ref a]) (rest := []) hx hb hml hown hE hK (hN _ _ hS) hP hD (v_TcompareTexts l D dA H.size ws ta t NL a1 (RS (b + st - 1)) a S hnm hnc hs1 ho1 hsa hoa) (q0 := 0) rfl rfl w1421 w1420 w1422 w1423 w807 rfl rfl ⟨⟨by decide, by decide⟩, rfl⟩ ⟨(Nat.le_of_ble_eq_true rfl), (Nat.le_of_ble_eq_true rfl)⟩ rfl hl.1 rfl (Nat.le_of_ble_eq_true rfl) d_T_placeOf_35 ⟨(Nat.le_of_ble_eq_true rfl), (Nat.le_of_ble_eq_true rfl)⟩) hP hD hS hA (fun r3 u4 H locs hp9 hP hD hS => ?_)
          have hP : va_P D vwCl (TbW dA ta t ++ (ws)) H := hP
          have hD : va_D A (TbW dA ta t ++ (ws)) := hD
          replace hp9 : cmT NL t.nc (RS (b + st - 1)) S = r3 := Eq.symm hp9
          subst hp9
          refine lv_if_ge hx hb d_T_placeOf_38 (tgt := 44) rfl (fun g5 => ?_) (fun g5 => ?_)
          · have g5 := g5
            refine lv_iload_n hx hb d_T_placeOf_44 rfl (lv_at hl 2 rfl) ?_
            refine lv_iconst (v := 2) hx hb d_T_placeOf_45 (by decide) ?_
            refine lv_idiv hx hb d_T_placeOf_46 (by decide) (tpi (y := nI (st / 2)) (pk_div (a := st) (d := 2) (by omega) (by omega) (by omega)) ?_)
            refine lv_istore_n hx hb d_T_placeOf_47 rfl hl (by decide) rfl (fun ls hl => ?_)
            have hl : lv_has ls 5 [(3, .int (nI (st / 2))), (4, .int (nI (b + st))), (2, .int (nI b)), (0, .ref (ta 0)), (1, .ref a)] := hl
            refine lv_goto hx hb d_T_placeOf_48 (tgt := 6) rfl ?_
            exact ih6 _ (by have := hp_f i2 g1; omega) b (st / 2) (f - 1) (by omega) (hp_s i2 g1) (by omega) (by rw [← i3, bs_n2 (hp_f i2 g1) (show ltT NL t.nc RS S (b + st - 1) = false by unfold ltT; rw [decide_eq_true g5]; rfl)]) rfl H _ ls hP hD hS (lv_sub hl [2, 0, 3, 4] rfl)
          · have g5 := g5
            refine lv_iload hx hb d_T_placeOf_41 (lv_at hl 0 rfl) ?_
            refine lv_istore_n hx hb d_T_placeOf_43 rfl hl (by decide) rfl (fun ls hl => ?_)
            have hl : lv_has ls 5 [(2, .int (nI (b + st))), (4, .int (nI (b + st))), (3, .int (nI st)), (0, .ref (ta 0)), (1, .ref a)] := hl
            refine lv_iload_n hx hb d_T_placeOf_44 rfl (lv_at hl 2 rfl) ?_
            refine lv_iconst (v := 2) hx hb d_T_placeOf_45 (by decide) ?_
            refine lv_idiv hx hb d_T_placeOf_46 (by decide) (tpi (y := nI (st / 2)) (pk_div (a := st) (d := 2) (by omega) (by omega) (by omega)) ?_)
            refine lv_istore_n hx hb d_T_placeOf_47 rfl hl (by decide) rfl (fun ls hl => ?_)
            have hl : lv_has ls 5 [(3, .int (nI (st / 2))), (2, .int (nI (b + st))), (4, .int (nI (b + st))), (0, .ref (ta 0)), (1, .ref a)] := hl
            refine lv_goto hx hb d_T_placeOf_48 (tgt := 6) rfl ?_
            exact ih6 _ (by have := hp_f i2 g1; omega) (b + st) (st / 2) (f - 1) (by omega) (hp_s i2 g1) (by omega) (by rw [← i3, bs_y (hp_f i2 g1) (by omega) (show ltT NL t.nc RS S (b + st - 1) = true by unfold ltT; rw [decide_eq_false g5]; rfl)]) rfl H _ ls hP hD hS (lv_sub hl [1, 0, 3, 4] rfl)
  exact L6 _ 0 256 9 (Nat.zero_le _) (by decide) (by decide) rfl rfl H _ ls hP hD hS (lv_sub hl [1, 0, 2, 3] rfl)
theorem d_T_rowOf_0 : decode prog_11_method_5_code 0 = .ok (.aload_n 0, 1) := by decide +kernel
theorem d_T_rowOf_1 : decode prog_11_method_5_code 1 = .ok (.aload_n 1, 1) := by decide +kernel
theorem d_T_rowOf_2 : decode prog_11_method_5_code 2 = .ok (.invokevirtual 55, 3) := by decide +kernel
theorem d_T_rowOf_5 : decode prog_11_method_5_code 5 = .ok (.istore_n 2, 1) := by decide +kernel
theorem d_T_rowOf_6 : decode prog_11_method_5_code 6 = .ok (.iload_n 2, 1) := by decide +kernel
theorem d_T_rowOf_7 : decode prog_11_method_5_code 7 = .ok (.aload_n 0, 1) := by decide +kernel
theorem d_T_rowOf_8 : decode prog_11_method_5_code 8 = .ok (.getfield 37, 3) := by decide +kernel
theorem d_T_rowOf_11 : decode prog_11_method_5_code 11 = .ok (.if_icmp .ge 21, 3) := by decide +kernel
theorem d_T_rowOf_32 : decode prog_11_method_5_code 32 = .ok (.iconst (-1), 1) := by decide +kernel
theorem d_T_rowOf_33 : decode prog_11_method_5_code 33 = .ok (.ireturn, 1) := by decide +kernel
theorem d_T_rowOf_14 : decode prog_11_method_5_code 14 = .ok (.aload_n 0, 1) := by decide +kernel
theorem d_T_rowOf_15 : decode prog_11_method_5_code 15 = .ok (.aload_n 0, 1) := by decide +kernel
theorem d_T_rowOf_16 : decode prog_11_method_5_code 16 = .ok (.getfield 19, 3) := by decide +kernel
theorem d_T_rowOf_19 : decode prog_11_method_5_code 19 = .ok (.iload_n 2, 1) := by decide +kernel
theorem d_T_rowOf_20 : decode prog_11_method_5_code 20 = .ok (.aaload, 1) := by decide +kernel
theorem d_T_rowOf_21 : decode prog_11_method_5_code 21 = .ok (.aload_n 1, 1) := by decide +kernel
theorem d_T_rowOf_22 : decode prog_11_method_5_code 22 = .ok (.invokevirtual 51, 3) := by decide +kernel
theorem d_T_rowOf_25 : decode prog_11_method_5_code 25 = .ok (.ifCond .ne 7, 3) := by decide +kernel
theorem d_T_rowOf_28 : decode prog_11_method_5_code 28 = .ok (.iload_n 2, 1) := by decide +kernel
theorem d_T_rowOf_29 : decode prog_11_method_5_code 29 = .ok (.goto 4, 3) := by decide +kernel
theorem w1424 : Cond.methodLink "SeriesVault$Table" 55 ⟨"SeriesVault$Table", "placeOf", "(LSeriesVault$Series;)I"⟩ ∈ aW := aw_of (tb_7 (List.mem_of_getElem? (i := 213) rfl)) rfl
theorem w1425 : Cond.code ⟨"SeriesVault$Table", "placeOf", "(LSeriesVault$Series;)I"⟩ prog_11_method_4_code 5 (some FieldType.int) ∈ aW := aw_of (tb_7 (List.mem_of_getElem? (i := 216) rfl)) rfl
theorem w1426 : Cond.instanceMethod ⟨"SeriesVault$Table", "placeOf", "(LSeriesVault$Series;)I"⟩ ∈ aW := aw_of (tb_7 (List.mem_of_getElem? (i := 215) rfl)) rfl
theorem w1427 : Cond.selects "SeriesVault$Table" ⟨"SeriesVault$Table", "placeOf", "(LSeriesVault$Series;)I"⟩ ⟨"SeriesVault$Table", "placeOf", "(LSeriesVault$Series;)I"⟩ ∈ aW := aw_pr (List.mem_map.mpr ⟨_, pv_4 (List.mem_of_getElem? (i := 5) rfl), rfl⟩) rfl
set_option maxHeartbeats 4000000 in
set_option maxRecDepth 100000 in
theorem v_TrowOf (l : Launch) (D : va_G) (dA : Nat → ClassId) (sz : Nat) (ws : va_W) (ta : Nat → Nat) (t : TB) (NL : Nat → List Int32) (RS : Nat → List LB) (a : Nat) (S : List LB) (hnm : nmOk dA ws t.nm t.nc NL) (hnc : t.nc ≤ 6) (hrs : rsOk dA ws t.rs t.rc RS) (hsa : isSer dA ws a S) (hoa : serOk S) (h1 : t.rc ≤ 256) : Met l ⟨"SeriesVault$Table", "rowOf", "(LSeriesVault$Series;)I"⟩ [Cond.code ⟨"SeriesVault$Table", "rowOf", "(LSeriesVault$Series;)I"⟩ prog_11_method_5_code 3 (some FieldType.int)] { frames := 5, cells := 0, slots := 0, locals := 92 } (pC D dA [.ref (ta 0), .ref a] (TbW dA ta t ++ (ws)) sz) (va_Qi (fun (r9 : Int32) (u9 : Unit) => r9 = roT NL t.nc t.rc RS S) (fun (u9 : Unit) t9 => bW D (va_A (TbW dA ta t ++ (ws)) sz) (TbW dA ta t ++ (ws)) t9) (va_A (TbW dA ta t ++ (ws)) sz)) 0 0 (va_A (TbW dA ta t ++ (ws)) sz) := by
  refine mkC (y := ⟨"SeriesVault$Table", "rowOf", "(LSeriesVault$Series;)I"⟩) (cc := prog_11_method_5_code) (maxL := 3) (av := [.ref (ta 0), .ref a]) (ws := TbW dA ta t ++ (ws)) (sz := sz) (Qc := fun A => va_Qi (fun (r9 : Int32) (u9 : Unit) => r9 = roT NL t.nc t.rc RS S) (fun (u9 : Unit) t9 => bW D A (TbW dA ta t ++ (ws)) t9) A) (by decide) (Nat.le_of_ble_eq_true rfl) ?_
  intro A p e s m below meth c ls hsz hB
  obtain ⟨hx, hb, hr, hml, hown, hin, hlk, hE, hK, hP, hD, hS, hA, hN, hl⟩ := hB
  have hown : s.vm.findClass "SeriesVault$Table" = some m.cls := hown
  have hl : lv_has ls 3 [(0, .ref (ta 0)), (1, .ref a)] := hl
  obtain ⟨H, hH⟩ : ∃ z, z = s.heap := ⟨_, rfl⟩
  have hP : va_P D vwCl (TbW dA ta t ++ (ws)) H := by rw [hH]; exact hP
  have hS : va_S A s.heap H [] := by rw [hH]; exact hS
  rw [← hH]
  refine lv_aload_n hx hb d_T_rowOf_0 rfl (lv_at hl 0 rfl) ?_
  refine lv_aload_n hx hb d_T_rowOf_1 rfl (lv_at hl 1 rfl) ?_
  refine jkI (wr := []) (rnV (As := [.ref a]) (rest := []) hx hb hml hown hE hK (hN _ _ hS) hP hD (v_TplaceOf l D dA H.size ws ta t NL RS a S hnm hnc hrs hsa hoa (show t.rc ≤ 256 from by omega)) (q0 := 0) rfl rfl w1425 w1424 w1426 w1427 w807 rfl rfl ⟨⟨by decide, by decide⟩, rfl⟩ ⟨(Nat.le_of_ble_eq_true rfl), (Nat.le_of_ble_eq_true rfl)⟩ rfl hl.1 rfl (Nat.le_of_ble_eq_true rfl) d_T_rowOf_2 ⟨(Nat.le_of_ble_eq_true rfl), (Nat.le_of_ble_eq_true rfl)⟩) hP hD hS hA (fun r1 u2 H locs hp9 hP hD hS => ?_)
  have hP : va_P D vwCl (TbW dA ta t ++ (ws)) H := hP
  have hD : va_D A (TbW dA ta t ++ (ws)) := hD
  obtain ⟨hp9, f_le_3⟩ := hp9
  replace hp9 : nI (plT NL t.nc t.rc RS S) = r1 := Eq.symm hp9
  subst hp9
  refine lv_istore_n hx hb d_T_rowOf_5 rfl hl (by decide) rfl (fun ls hl => ?_)
  have hl : lv_has ls 3 [(2, .int (nI (plT NL t.nc t.rc RS S))), (0, .ref (ta 0)), (1, .ref a)] := hl
  refine lv_iload_n hx hb d_T_rowOf_6 rfl (lv_at hl 0 rfl) ?_
  refine lv_aload_n hx hb d_T_rowOf_7 rfl (lv_at hl 1 rfl) ?_
  refine gF (v := .int (nI t.rc)) hx hb hown hE hK hP 0 rfl rfl layT 3 (by decide) w1368 rfl d_T_rowOf_8 ?_
  refine lv_icmp_ge hx hb d_T_rowOf_11 (tgt := 32) rfl (fun g4 => ?_) (fun g4 => ?_)
  · have g4 := (nI_leI (a := t.rc) (b := plT NL t.nc t.rc RS S) (by omega) (by omega)).mp g4
    refine lv_iconst (v := (-1)) hx hb d_T_rowOf_32 (by decide) ?_
    exact rfI hx hb hr hlk hS () (by unfold roT; rw [if_neg (fun h => Nat.not_lt.mpr g4 h.1)]) hP hD (Nat.le_of_ble_eq_true rfl) (Nat.le_of_ble_eq_true rfl) d_T_rowOf_33
  · have g4 := mt (nI_leI (a := t.rc) (b := plT NL t.nc t.rc RS S) (by omega) (by omega)).mpr g4
    refine lv_aload_n hx hb d_T_rowOf_14 rfl (lv_at hl 1 rfl) ?_
    refine lv_aload_n hx hb d_T_rowOf_15 rfl (lv_at hl 1 rfl) ?_
    obtain ⟨a1, er1, hs1, ho1⟩ := hrs (plT NL t.nc t.rc RS S) (by omega)
    refine gF (v := .ref (ta 2)) hx hb hown hE hK hP 0 rfl rfl layT 4 (by decide) w787 rfl d_T_rowOf_16 ?_
    refine lv_iload_n hx hb d_T_rowOf_19 rfl (lv_at hl 0 rfl) ?_
    refine nqld (f := t.rs) (n := 256) hx hb hK hP (2) 5 rfl rfl (plT NL t.nc t.rc RS S) (by omega) (by decide) er1 d_T_rowOf_20 ?_
    refine lv_aload_n hx hb d_T_rowOf_21 rfl (lv_at hl 2 rfl) ?_
    refine jkI (wr := []) (rnV (As := [.ref a1, .ref a]) (rest := []) hx hb hml hown hE hK (hN _ _ hS) hP hD (v_TcompareTexts l D dA H.size ws ta t NL a1 (RS (plT NL t.nc t.rc RS S)) a S hnm hnc hs1 ho1 hsa hoa) (q0 := 0) rfl rfl w1421 w1420 w1422 w1423 w807 rfl rfl ⟨⟨by decide, by decide⟩, rfl⟩ ⟨(Nat.le_of_ble_eq_true rfl), (Nat.le_of_ble_eq_true rfl)⟩ rfl hl.1 rfl (Nat.le_of_ble_eq_true rfl) d_T_rowOf_22 ⟨(Nat.le_of_ble_eq_true rfl), (Nat.le_of_ble_eq_true rfl)⟩) hP hD hS hA (fun r5 u6 H locs hp9 hP hD hS => ?_)
    have hP : va_P D vwCl (TbW dA ta t ++ (ws)) H := hP
    have hD : va_D A (TbW dA ta t ++ (ws)) := hD
    replace hp9 : cmT NL t.nc (RS (plT NL t.nc t.rc RS S)) S = r5 := Eq.symm hp9
    subst hp9
    refine lv_if_ne hx hb d_T_rowOf_25 (tgt := 32) rfl (fun g7 => ?_) (fun g7 => ?_)
    · have g7 := g7
      refine lv_iconst (v := (-1)) hx hb d_T_rowOf_32 (by decide) ?_
      exact rfI hx hb hr hlk hS () (by unfold roT; rw [if_neg (fun h => g7 h.2)]) hP hD (Nat.le_of_ble_eq_true rfl) (Nat.le_of_ble_eq_true rfl) d_T_rowOf_33
    · have g7 := g7
      refine lv_iload_n hx hb d_T_rowOf_28 rfl (lv_at hl 0 rfl) ?_
      refine lv_goto hx hb d_T_rowOf_29 (tgt := 33) rfl ?_
      exact rfI hx hb hr hlk hS () (by unfold roT; rw [if_pos ⟨Nat.not_le.mp g4, g7⟩]) hP hD (Nat.le_of_ble_eq_true rfl) (Nat.le_of_ble_eq_true rfl) d_T_rowOf_33
theorem d_T_addRow_0 : decode prog_11_method_6_code 0 = .ok (.aload_n 0, 1) := by decide +kernel
theorem d_T_addRow_1 : decode prog_11_method_6_code 1 = .ok (.aload_n 1, 1) := by decide +kernel
theorem d_T_addRow_2 : decode prog_11_method_6_code 2 = .ok (.invokevirtual 55, 3) := by decide +kernel
theorem d_T_addRow_5 : decode prog_11_method_6_code 5 = .ok (.istore_n 2, 1) := by decide +kernel
theorem d_T_addRow_6 : decode prog_11_method_6_code 6 = .ok (.aload_n 0, 1) := by decide +kernel
theorem d_T_addRow_7 : decode prog_11_method_6_code 7 = .ok (.getfield 37, 3) := by decide +kernel
theorem d_T_addRow_10 : decode prog_11_method_6_code 10 = .ok (.sipush 256, 3) := by decide +kernel
theorem d_T_addRow_13 : decode prog_11_method_6_code 13 = .ok (.if_icmp .eq 25, 3) := by decide +kernel
theorem d_T_addRow_38 : decode prog_11_method_6_code 38 = .ok (.return_, 1) := by decide +kernel
theorem d_T_addRow_16 : decode prog_11_method_6_code 16 = .ok (.iload_n 2, 1) := by decide +kernel
theorem d_T_addRow_17 : decode prog_11_method_6_code 17 = .ok (.aload_n 0, 1) := by decide +kernel
theorem d_T_addRow_18 : decode prog_11_method_6_code 18 = .ok (.getfield 37, 3) := by decide +kernel
theorem d_T_addRow_21 : decode prog_11_method_6_code 21 = .ok (.if_icmp .ge 18, 3) := by decide +kernel
theorem d_T_addRow_39 : decode prog_11_method_6_code 39 = .ok (.aload_n 0, 1) := by decide +kernel
theorem d_T_addRow_40 : decode prog_11_method_6_code 40 = .ok (.getfield 37, 3) := by decide +kernel
theorem d_T_addRow_43 : decode prog_11_method_6_code 43 = .ok (.istore_n 3, 1) := by decide +kernel
theorem d_T_addRow_44 : decode prog_11_method_6_code 44 = .ok (.iload_n 3, 1) := by decide +kernel
theorem d_T_addRow_45 : decode prog_11_method_6_code 45 = .ok (.iload_n 2, 1) := by decide +kernel
theorem d_T_addRow_46 : decode prog_11_method_6_code 46 = .ok (.if_icmp .le 23, 3) := by decide +kernel
theorem d_T_addRow_69 : decode prog_11_method_6_code 69 = .ok (.aload_n 0, 1) := by decide +kernel
theorem d_T_addRow_70 : decode prog_11_method_6_code 70 = .ok (.getfield 19, 3) := by decide +kernel
theorem d_T_addRow_73 : decode prog_11_method_6_code 73 = .ok (.iload_n 2, 1) := by decide +kernel
theorem d_T_addRow_74 : decode prog_11_method_6_code 74 = .ok (.aload_n 1, 1) := by decide +kernel
theorem d_T_addRow_75 : decode prog_11_method_6_code 75 = .ok (.aastore, 1) := by decide +kernel
theorem d_T_addRow_76 : decode prog_11_method_6_code 76 = .ok (.aload_n 0, 1) := by decide +kernel
theorem d_T_addRow_77 : decode prog_11_method_6_code 77 = .ok (.dup, 1) := by decide +kernel
theorem d_T_addRow_78 : decode prog_11_method_6_code 78 = .ok (.getfield 37, 3) := by decide +kernel
theorem d_T_addRow_81 : decode prog_11_method_6_code 81 = .ok (.iconst 1, 1) := by decide +kernel
theorem d_T_addRow_82 : decode prog_11_method_6_code 82 = .ok (.iadd, 1) := by decide +kernel
theorem d_T_addRow_83 : decode prog_11_method_6_code 83 = .ok (.putfield 37, 3) := by decide +kernel
theorem d_T_addRow_86 : decode prog_11_method_6_code 86 = .ok (.return_, 1) := by decide +kernel
theorem d_T_addRow_49 : decode prog_11_method_6_code 49 = .ok (.aload_n 0, 1) := by decide +kernel
theorem d_T_addRow_50 : decode prog_11_method_6_code 50 = .ok (.getfield 19, 3) := by decide +kernel
theorem d_T_addRow_53 : decode prog_11_method_6_code 53 = .ok (.iload_n 3, 1) := by decide +kernel
theorem d_T_addRow_54 : decode prog_11_method_6_code 54 = .ok (.aload_n 0, 1) := by decide +kernel
theorem d_T_addRow_55 : decode prog_11_method_6_code 55 = .ok (.getfield 19, 3) := by decide +kernel
theorem d_T_addRow_58 : decode prog_11_method_6_code 58 = .ok (.iload_n 3, 1) := by decide +kernel
theorem d_T_addRow_59 : decode prog_11_method_6_code 59 = .ok (.iconst 1, 1) := by decide +kernel
theorem d_T_addRow_60 : decode prog_11_method_6_code 60 = .ok (.isub, 1) := by decide +kernel
theorem d_T_addRow_61 : decode prog_11_method_6_code 61 = .ok (.aaload, 1) := by decide +kernel
theorem d_T_addRow_62 : decode prog_11_method_6_code 62 = .ok (.aastore, 1) := by decide +kernel
theorem d_T_addRow_63 : decode prog_11_method_6_code 63 = .ok (.iinc 3 (-1), 3) := by decide +kernel
theorem d_T_addRow_66 : decode prog_11_method_6_code 66 = .ok (.goto (-22), 3) := by decide +kernel
theorem d_T_addRow_24 : decode prog_11_method_6_code 24 = .ok (.aload_n 0, 1) := by decide +kernel
theorem d_T_addRow_25 : decode prog_11_method_6_code 25 = .ok (.aload_n 0, 1) := by decide +kernel
theorem d_T_addRow_26 : decode prog_11_method_6_code 26 = .ok (.getfield 19, 3) := by decide +kernel
theorem d_T_addRow_29 : decode prog_11_method_6_code 29 = .ok (.iload_n 2, 1) := by decide +kernel
theorem d_T_addRow_30 : decode prog_11_method_6_code 30 = .ok (.aaload, 1) := by decide +kernel
theorem d_T_addRow_31 : decode prog_11_method_6_code 31 = .ok (.aload_n 1, 1) := by decide +kernel
theorem d_T_addRow_32 : decode prog_11_method_6_code 32 = .ok (.invokevirtual 51, 3) := by decide +kernel
theorem d_T_addRow_35 : decode prog_11_method_6_code 35 = .ok (.ifCond .ne 4, 3) := by decide +kernel
set_option maxHeartbeats 4000000 in
set_option maxRecDepth 100000 in
theorem v_TaddRow (l : Launch) (D : va_G) (dA : Nat → ClassId) (sz : Nat) (ws : va_W) (ta : Nat → Nat) (t : TB) (NL : Nat → List Int32) (RS : Nat → List LB) (a : Nat) (S : List LB) (hnm : nmOk dA ws t.nm t.nc NL) (hnc : t.nc ≤ 6) (hrs : rsOk dA ws t.rs t.rc RS) (hsa : isSer dA ws a S) (hoa : serOk S) (h1 : t.rc ≤ 256) : Met l ⟨"SeriesVault$Table", "addRow", "(LSeriesVault$Series;)V"⟩ [Cond.code ⟨"SeriesVault$Table", "addRow", "(LSeriesVault$Series;)V"⟩ prog_11_method_6_code 4 none] { frames := 5, cells := 0, slots := 0, locals := 92 } (pC D dA [.ref (ta 0), .ref a] (TbW dA ta t ++ (ws)) sz) (va_Qv (fun (u9 : TB) => u9 = adT NL t RS S a) (fun (u9 : TB) t9 => bW D (va_A (TbW dA ta t ++ (ws)) sz) (TbW dA ta u9 ++ (ws)) t9) (va_A (TbW dA ta t ++ (ws)) sz)) 0 0 (va_A (TbW dA ta t ++ (ws)) sz) := by
  refine mkC (y := ⟨"SeriesVault$Table", "addRow", "(LSeriesVault$Series;)V"⟩) (cc := prog_11_method_6_code) (maxL := 4) (av := [.ref (ta 0), .ref a]) (ws := TbW dA ta t ++ (ws)) (sz := sz) (Qc := fun A => va_Qv (fun (u9 : TB) => u9 = adT NL t RS S a) (fun (u9 : TB) t9 => bW D A (TbW dA ta u9 ++ (ws)) t9) A) (by decide) (Nat.le_of_ble_eq_true rfl) ?_
  intro A p e s m below meth c ls hsz hB
  obtain ⟨hx, hb, hr, hml, hown, hin, hlk, hE, hK, hP, hD, hS, hA, hN, hl⟩ := hB
  have hown : s.vm.findClass "SeriesVault$Table" = some m.cls := hown
  have hl : lv_has ls 4 [(0, .ref (ta 0)), (1, .ref a)] := hl
  obtain ⟨H, hH⟩ : ∃ z, z = s.heap := ⟨_, rfl⟩
  have hP : va_P D vwCl (TbW dA ta t ++ (ws)) H := by rw [hH]; exact hP
  have hS : va_S A s.heap H [] := by rw [hH]; exact hS
  rw [← hH]
  have hc0 := hsa
  obtain ⟨na0, va0, no0, tx0, fn0, fv0, j0, -⟩ := hc0
  refine lv_aload_n hx hb d_T_addRow_0 rfl (lv_at hl 0 rfl) ?_
  refine lv_aload_n hx hb d_T_addRow_1 rfl (lv_at hl 1 rfl) ?_
  refine jkI (wr := []) (rnV (As := [.ref a]) (rest := []) hx hb hml hown hE hK (hN _ _ hS) hP hD (v_TplaceOf l D dA H.size ws ta t NL RS a S hnm hnc hrs hsa hoa (show t.rc ≤ 256 from by omega)) (q0 := 0) rfl rfl w1425 w1424 w1426 w1427 w807 rfl rfl ⟨⟨by decide, by decide⟩, rfl⟩ ⟨(Nat.le_of_ble_eq_true rfl), (Nat.le_of_ble_eq_true rfl)⟩ rfl hl.1 rfl (Nat.le_of_ble_eq_true rfl) d_T_addRow_2 ⟨(Nat.le_of_ble_eq_true rfl), (Nat.le_of_ble_eq_true rfl)⟩) hP hD hS hA (fun r1 u2 H locs hp9 hP hD hS => ?_)
  have hP : va_P D vwCl (TbW dA ta t ++ (ws)) H := hP
  have hD : va_D A (TbW dA ta t ++ (ws)) := hD
  obtain ⟨hp9, f_le_3⟩ := hp9
  replace hp9 : nI (plT NL t.nc t.rc RS S) = r1 := Eq.symm hp9
  subst hp9
  refine lv_istore_n hx hb d_T_addRow_5 rfl hl (by decide) rfl (fun ls hl => ?_)
  have hl : lv_has ls 4 [(2, .int (nI (plT NL t.nc t.rc RS S))), (0, .ref (ta 0)), (1, .ref a)] := hl
  refine lv_aload_n hx hb d_T_addRow_6 rfl (lv_at hl 1 rfl) ?_
  refine gF (v := .int (nI t.rc)) hx hb hown hE hK hP 0 rfl rfl layT 3 (by decide) w1368 rfl d_T_addRow_7 ?_
  refine lv_sipush (v := 256) hx hb d_T_addRow_10 (by decide) ?_
  refine lv_icmp_eq hx hb d_T_addRow_13 (tgt := 38) rfl (fun g4 => ?_) (fun g4 => ?_)
  · have g4 := (nI_eq (a := t.rc) (b := 256) (by omega) (by omega)).mp g4
    exact rfV hx hb hr hlk hS t (by unfold adT; rw [if_pos (Or.inl g4)]) hP hD (Nat.le_of_ble_eq_true rfl) (Nat.le_of_ble_eq_true rfl) d_T_addRow_38
  · have g4 := mt (nI_eq (a := t.rc) (b := 256) (by omega) (by omega)).mpr g4
    refine lv_iload_n hx hb d_T_addRow_16 rfl (lv_at hl 0 rfl) ?_
    refine lv_aload_n hx hb d_T_addRow_17 rfl (lv_at hl 1 rfl) ?_
    refine gF (v := .int (nI t.rc)) hx hb hown hE hK hP 0 rfl rfl layT 3 (by decide) w1368 rfl d_T_addRow_18 ?_
    refine lv_icmp_ge hx hb d_T_addRow_21 (tgt := 39) rfl (fun g5 => ?_) (fun g5 => ?_)
    · have g5 := (nI_leI (a := t.rc) (b := plT NL t.nc t.rc RS S) (by omega) (by omega)).mp g5
      refine lv_aload_n hx hb d_T_addRow_39 rfl (lv_at hl 1 rfl) ?_
      refine gF (v := .int (nI t.rc)) hx hb hown hE hK hP 0 rfl rfl layT 3 (by decide) w1368 rfl d_T_addRow_40 ?_
      refine lv_istore_n hx hb d_T_addRow_43 rfl hl (by decide) rfl (fun ls hl => ?_)
      have hl : lv_has ls 4 [(3, .int (nI t.rc)), (2, .int (nI (plT NL t.nc t.rc RS S))), (0, .ref (ta 0)), (1, .ref a)] := hl
      have L44 : ∀ (k9 : Nat) (i : Nat) (i1 : i ≤ t.rc) (i2 : plT NL t.nc t.rc RS S ≤ i) (hk9 : i = k9), ∀ (H : Heap) (locs : List Loc) (ls : Array Slot) (hP : va_P D vwCl (TbW dA ta (TB.s_rs t (shF t.rs i t.rc)) ++ (ws)) H) (hD : va_D A (TbW dA ta (TB.s_rs t (shF t.rs i t.rc)) ++ (ws))) (hS : va_S A s.heap H locs) (hl : lv_has ls 4 [(3, .int (nI i)), (2, .int (nI (plT NL t.nc t.rc RS S))), (0, .ref (ta 0)), (1, .ref a)]), W p l e ({ frames := 5, cells := 0, slots := 0, locals := 92 } : Room) s m ([.ref (ta 0), .ref a] : List Value).toArray below meth c H locs 0 0 (MQ below (va_Qv (fun (u9 : TB) => u9 = adT NL t RS S a) (fun (u9 : TB) t9 => bW D A (TbW dA ta u9 ++ (ws)) t9) A) ([.ref (ta 0), .ref a] : List Value).toArray s 0 0 A) (F0 m 44 ls []) := by
        intro k9
        induction k9 using Nat.strongRecOn with
        | ind k9 ih44 =>
          intro i i1 i2 hk9 H locs ls hP hD hS hl
          refine lv_iload_n hx hb d_T_addRow_44 rfl (lv_at hl 0 rfl) ?_
          refine lv_iload_n hx hb d_T_addRow_45 rfl (lv_at hl 1 rfl) ?_
          refine lv_icmp_le hx hb d_T_addRow_46 (tgt := 69) rfl (fun g6 => ?_) (fun g6 => ?_)
          · have g6 := (nI_leI (a := i) (b := plT NL t.nc t.rc RS S) (by omega) (by omega)).mp g6
            refine lv_aload_n hx hb d_T_addRow_69 rfl (lv_at hl 2 rfl) ?_
            refine gF (v := .ref (ta 2)) hx hb hown hE hK hP 0 rfl rfl layT 4 (by decide) w787 rfl d_T_addRow_70 ?_
            refine lv_iload_n hx hb d_T_addRow_73 rfl (lv_at hl 1 rfl) ?_
            refine lv_aload_n hx hb d_T_addRow_74 rfl (lv_at hl 3 rfl) ?_
            obtain ⟨qp7, ep8⟩ := List.getElem?_of_mem (show ((a, .inr (11, [.ref na0, .ref va0, .ref no0, .ref tx0])) : Nat × va_E) ∈ TbW dA ta (TB.s_rs t (shF t.rs i t.rc)) ++ (ws) from (List.mem_append_right _ j0))
            refine nqst (r := ("SeriesVault$Series", TS, 4)) (f := (shF t.rs i t.rc)) (n := 256) hx hb hK hP hD hS (2) 5 (qp7) 11 rfl rfl ep8 rfl (plT NL t.nc t.rc RS S) (by omega) (by decide) d_T_addRow_75 (fun H locs hP hD hS => ?_)
            have hP : va_P D vwCl (TbW dA ta (TB.s_rs t (va_up (shF t.rs i t.rc) (plT NL t.nc t.rc RS S) (some a))) ++ (ws)) H := hP
            have hD : va_D A (TbW dA ta (TB.s_rs t (va_up (shF t.rs i t.rc) (plT NL t.nc t.rc RS S) (some a))) ++ (ws)) := hD
            refine lv_aload_n hx hb d_T_addRow_76 rfl (lv_at hl 2 rfl) ?_
            refine lv_dup hx hb d_T_addRow_77 rfl ?_
            refine gF (v := .int (nI t.rc)) hx hb hown hE hK hP 0 rfl rfl layT 3 (by decide) w1368 rfl d_T_addRow_78 ?_
            refine lv_iconst (v := 1) hx hb d_T_addRow_81 (by decide) ?_
            refine lv_iadd hx hb d_T_addRow_82 (tpi (y := nI (t.rc + 1)) (nI_add (t.rc) (1)) ?_)
            refine pF (v := .int (nI (t.rc + 1))) hx hb hown hE hK hP hD hS 0 rfl rfl layT tyT tokT nmT 3 (by decide) w1368 rfl rfl rfl (Nat.le_of_ble_eq_true rfl) d_T_addRow_83 (fun H locs hP hD hS => ?_)
            have hP : va_P D vwCl (TbW dA ta (TB.s_rs (TB.s_rc t (t.rc + 1)) (va_up (shF t.rs i t.rc) (plT NL t.nc t.rc RS S) (some a))) ++ (ws)) H := hP
            have hD : va_D A (TbW dA ta (TB.s_rs (TB.s_rc t (t.rc + 1)) (va_up (shF t.rs i t.rc) (plT NL t.nc t.rc RS S) (some a))) ++ (ws)) := hD
            exact rfV hx hb hr hlk hS (TB.s_rs (TB.s_rc t (t.rc + 1)) (va_up (shF t.rs i t.rc) (plT NL t.nc t.rc RS S) (some a))) (by unfold adT; rw [if_neg (fun h => h.elim g4 (fun h => Nat.not_lt.mpr g5 h.1)), ← show i = plT NL t.nc t.rc RS S by omega]; rfl) hP hD (Nat.le_of_ble_eq_true rfl) (Nat.le_of_ble_eq_true rfl) d_T_addRow_86
          · have g6 := mt (nI_leI (a := i) (b := plT NL t.nc t.rc RS S) (by omega) (by omega)).mpr g6
            refine lv_aload_n hx hb d_T_addRow_49 rfl (lv_at hl 2 rfl) ?_
            refine gF (v := .ref (ta 2)) hx hb hown hE hK hP 0 rfl rfl layT 4 (by decide) w787 rfl d_T_addRow_50 ?_
            refine lv_iload_n hx hb d_T_addRow_53 rfl (lv_at hl 0 rfl) ?_
            refine lv_aload_n hx hb d_T_addRow_54 rfl (lv_at hl 2 rfl) ?_
            obtain ⟨a1, er1, hs1, ho1⟩ := hrs (i - 1) (by omega)
            have hs1c := hs1
            obtain ⟨na1, va1, no1, tx1, fn1, fv1, j1, -⟩ := hs1c
            refine gF (v := .ref (ta 2)) hx hb hown hE hK hP 0 rfl rfl layT 4 (by decide) w787 rfl d_T_addRow_55 ?_
            refine lv_iload_n hx hb d_T_addRow_58 rfl (lv_at hl 0 rfl) ?_
            refine lv_iconst (v := 1) hx hb d_T_addRow_59 (by decide) ?_
            refine lv_isub hx hb d_T_addRow_60 (tpi (y := nI (i - 1)) (pk_sub (a := i) (b := 1) (by omega)) ?_)
            refine nqld (f := (shF t.rs i t.rc)) (n := 256) hx hb hK hP (2) 5 rfl rfl (i - 1) (by omega) (by decide) ((shF_at (by omega)).trans er1) d_T_addRow_61 ?_
            obtain ⟨qp9, ep10⟩ := List.getElem?_of_mem (show ((a1, .inr (11, [.ref na1, .ref va1, .ref no1, .ref tx1])) : Nat × va_E) ∈ TbW dA ta (TB.s_rs t (shF t.rs i t.rc)) ++ (ws) from (List.mem_append_right _ j1))
            refine nqst (r := ("SeriesVault$Series", TS, 4)) (f := (shF t.rs i t.rc)) (n := 256) hx hb hK hP hD hS (2) 5 (qp9) 11 rfl rfl ep10 rfl (i) (by omega) (by decide) d_T_addRow_62 (fun H locs hP hD hS => ?_)
            have hP : va_P D vwCl (TbW dA ta (TB.s_rs t (va_up (shF t.rs i t.rc) i (some a1))) ++ (ws)) H := hP
            have hD : va_D A (TbW dA ta (TB.s_rs t (va_up (shF t.rs i t.rc) i (some a1))) ++ (ws)) := hD
            refine lv_iinc (k := 0) (v := nI (i - 1)) hx hb d_T_addRow_63 hl rfl (iincM (by omega)) (by decide) rfl (fun ls hl => ?_)
            have hl : lv_has ls 4 [(3, .int (nI (i - 1))), (2, .int (nI (plT NL t.nc t.rc RS S))), (0, .ref (ta 0)), (1, .ref a)] := hl
            refine lv_goto hx hb d_T_addRow_66 (tgt := 44) rfl ?_
            have e9 : (TB.s_rs t (va_up (shF t.rs i t.rc) i (some a1)) : TB) = TB.s_rs t (shF t.rs (i - 1) t.rc) := by rw [show (shF t.rs (i - 1) t.rc) = (va_up (shF t.rs i t.rc) i (some a1)) from (shF_s (by omega) i1 er1).symm] <;> rfl
            rw [e9] at hP hD
            exact ih44 _ (by omega) (i - 1) (by omega) (by omega) rfl H _ ls hP hD hS (lv_sub hl [0, 1, 2, 3] rfl)
      have e9 : (t : TB) = TB.s_rs t (shF t.rs t.rc t.rc) := by rw [show (shF t.rs t.rc t.rc) = t.rs from (shF_0 _ _)] <;> rfl
      rw [e9] at hP hD
      exact L44 _ t.rc (Nat.le_refl _) (by omega) rfl H _ ls hP hD hS (lv_sub hl [0, 1, 2, 3] rfl)
    · have g5 := mt (nI_leI (a := t.rc) (b := plT NL t.nc t.rc RS S) (by omega) (by omega)).mpr g5
      refine lv_aload_n hx hb d_T_addRow_24 rfl (lv_at hl 1 rfl) ?_
      refine lv_aload_n hx hb d_T_addRow_25 rfl (lv_at hl 1 rfl) ?_
      obtain ⟨a1, er1, hs1, ho1⟩ := hrs (plT NL t.nc t.rc RS S) (by omega)
      refine gF (v := .ref (ta 2)) hx hb hown hE hK hP 0 rfl rfl layT 4 (by decide) w787 rfl d_T_addRow_26 ?_
      refine lv_iload_n hx hb d_T_addRow_29 rfl (lv_at hl 0 rfl) ?_
      refine nqld (f := t.rs) (n := 256) hx hb hK hP (2) 5 rfl rfl (plT NL t.nc t.rc RS S) (by omega) (by decide) er1 d_T_addRow_30 ?_
      refine lv_aload_n hx hb d_T_addRow_31 rfl (lv_at hl 2 rfl) ?_
      refine jkI (wr := []) (rnV (As := [.ref a1, .ref a]) (rest := []) hx hb hml hown hE hK (hN _ _ hS) hP hD (v_TcompareTexts l D dA H.size ws ta t NL a1 (RS (plT NL t.nc t.rc RS S)) a S hnm hnc hs1 ho1 hsa hoa) (q0 := 0) rfl rfl w1421 w1420 w1422 w1423 w807 rfl rfl ⟨⟨by decide, by decide⟩, rfl⟩ ⟨(Nat.le_of_ble_eq_true rfl), (Nat.le_of_ble_eq_true rfl)⟩ rfl hl.1 rfl (Nat.le_of_ble_eq_true rfl) d_T_addRow_32 ⟨(Nat.le_of_ble_eq_true rfl), (Nat.le_of_ble_eq_true rfl)⟩) hP hD hS hA (fun r11 u12 H locs hp9 hP hD hS => ?_)
      have hP : va_P D vwCl (TbW dA ta t ++ (ws)) H := hP
      have hD : va_D A (TbW dA ta t ++ (ws)) := hD
      replace hp9 : cmT NL t.nc (RS (plT NL t.nc t.rc RS S)) S = r11 := Eq.symm hp9
      subst hp9
      refine lv_if_ne hx hb d_T_addRow_35 (tgt := 39) rfl (fun g13 => ?_) (fun g13 => ?_)
      · have g13 := g13
        refine lv_aload_n hx hb d_T_addRow_39 rfl (lv_at hl 1 rfl) ?_
        refine gF (v := .int (nI t.rc)) hx hb hown hE hK hP 0 rfl rfl layT 3 (by decide) w1368 rfl d_T_addRow_40 ?_
        refine lv_istore_n hx hb d_T_addRow_43 rfl hl (by decide) rfl (fun ls hl => ?_)
        have hl : lv_has ls 4 [(3, .int (nI t.rc)), (2, .int (nI (plT NL t.nc t.rc RS S))), (0, .ref (ta 0)), (1, .ref a)] := hl
        have L44 : ∀ (k9 : Nat) (i : Nat) (i1 : i ≤ t.rc) (i2 : plT NL t.nc t.rc RS S ≤ i) (hk9 : i = k9), ∀ (H : Heap) (locs : List Loc) (ls : Array Slot) (hP : va_P D vwCl (TbW dA ta (TB.s_rs t (shF t.rs i t.rc)) ++ (ws)) H) (hD : va_D A (TbW dA ta (TB.s_rs t (shF t.rs i t.rc)) ++ (ws))) (hS : va_S A s.heap H locs) (hl : lv_has ls 4 [(3, .int (nI i)), (2, .int (nI (plT NL t.nc t.rc RS S))), (0, .ref (ta 0)), (1, .ref a)]), W p l e ({ frames := 5, cells := 0, slots := 0, locals := 92 } : Room) s m ([.ref (ta 0), .ref a] : List Value).toArray below meth c H locs 0 0 (MQ below (va_Qv (fun (u9 : TB) => u9 = adT NL t RS S a) (fun (u9 : TB) t9 => bW D A (TbW dA ta u9 ++ (ws)) t9) A) ([.ref (ta 0), .ref a] : List Value).toArray s 0 0 A) (F0 m 44 ls []) := by
          intro k9
          induction k9 using Nat.strongRecOn with
          | ind k9 ih44 =>
            intro i i1 i2 hk9 H locs ls hP hD hS hl
            refine lv_iload_n hx hb d_T_addRow_44 rfl (lv_at hl 0 rfl) ?_
            refine lv_iload_n hx hb d_T_addRow_45 rfl (lv_at hl 1 rfl) ?_
            refine lv_icmp_le hx hb d_T_addRow_46 (tgt := 69) rfl (fun g14 => ?_) (fun g14 => ?_)
            · have g14 := (nI_leI (a := i) (b := plT NL t.nc t.rc RS S) (by omega) (by omega)).mp g14
              refine lv_aload_n hx hb d_T_addRow_69 rfl (lv_at hl 2 rfl) ?_
              refine gF (v := .ref (ta 2)) hx hb hown hE hK hP 0 rfl rfl layT 4 (by decide) w787 rfl d_T_addRow_70 ?_
              refine lv_iload_n hx hb d_T_addRow_73 rfl (lv_at hl 1 rfl) ?_
              refine lv_aload_n hx hb d_T_addRow_74 rfl (lv_at hl 3 rfl) ?_
              obtain ⟨qp15, ep16⟩ := List.getElem?_of_mem (show ((a, .inr (11, [.ref na0, .ref va0, .ref no0, .ref tx0])) : Nat × va_E) ∈ TbW dA ta (TB.s_rs t (shF t.rs i t.rc)) ++ (ws) from (List.mem_append_right _ j0))
              refine nqst (r := ("SeriesVault$Series", TS, 4)) (f := (shF t.rs i t.rc)) (n := 256) hx hb hK hP hD hS (2) 5 (qp15) 11 rfl rfl ep16 rfl (plT NL t.nc t.rc RS S) (by omega) (by decide) d_T_addRow_75 (fun H locs hP hD hS => ?_)
              have hP : va_P D vwCl (TbW dA ta (TB.s_rs t (va_up (shF t.rs i t.rc) (plT NL t.nc t.rc RS S) (some a))) ++ (ws)) H := hP
              have hD : va_D A (TbW dA ta (TB.s_rs t (va_up (shF t.rs i t.rc) (plT NL t.nc t.rc RS S) (some a))) ++ (ws)) := hD
              refine lv_aload_n hx hb d_T_addRow_76 rfl (lv_at hl 2 rfl) ?_
              refine lv_dup hx hb d_T_addRow_77 rfl ?_
              refine gF (v := .int (nI t.rc)) hx hb hown hE hK hP 0 rfl rfl layT 3 (by decide) w1368 rfl d_T_addRow_78 ?_
              refine lv_iconst (v := 1) hx hb d_T_addRow_81 (by decide) ?_
              refine lv_iadd hx hb d_T_addRow_82 (tpi (y := nI (t.rc + 1)) (nI_add (t.rc) (1)) ?_)
              refine pF (v := .int (nI (t.rc + 1))) hx hb hown hE hK hP hD hS 0 rfl rfl layT tyT tokT nmT 3 (by decide) w1368 rfl rfl rfl (Nat.le_of_ble_eq_true rfl) d_T_addRow_83 (fun H locs hP hD hS => ?_)
              have hP : va_P D vwCl (TbW dA ta (TB.s_rs (TB.s_rc t (t.rc + 1)) (va_up (shF t.rs i t.rc) (plT NL t.nc t.rc RS S) (some a))) ++ (ws)) H := hP
              have hD : va_D A (TbW dA ta (TB.s_rs (TB.s_rc t (t.rc + 1)) (va_up (shF t.rs i t.rc) (plT NL t.nc t.rc RS S) (some a))) ++ (ws)) := hD
              exact rfV hx hb hr hlk hS (TB.s_rs (TB.s_rc t (t.rc + 1)) (va_up (shF t.rs i t.rc) (plT NL t.nc t.rc RS S) (some a))) (by unfold adT; rw [if_neg (fun h => h.elim g4 (fun h => g13 h.2)), ← show i = plT NL t.nc t.rc RS S by omega]; rfl) hP hD (Nat.le_of_ble_eq_true rfl) (Nat.le_of_ble_eq_true rfl) d_T_addRow_86
            · have g14 := mt (nI_leI (a := i) (b := plT NL t.nc t.rc RS S) (by omega) (by omega)).mpr g14
              refine lv_aload_n hx hb d_T_addRow_49 rfl (lv_at hl 2 rfl) ?_
              refine gF (v := .ref (ta 2)) hx hb hown hE hK hP 0 rfl rfl layT 4 (by decide) w787 rfl d_T_addRow_50 ?_
              refine lv_iload_n hx hb d_T_addRow_53 rfl (lv_at hl 0 rfl) ?_
              refine lv_aload_n hx hb d_T_addRow_54 rfl (lv_at hl 2 rfl) ?_
              obtain ⟨a1, er1, hs1, ho1⟩ := hrs (i - 1) (by omega)
              have hs1c := hs1
              obtain ⟨na1, va1, no1, tx1, fn1, fv1, j1, -⟩ := hs1c
              refine gF (v := .ref (ta 2)) hx hb hown hE hK hP 0 rfl rfl layT 4 (by decide) w787 rfl d_T_addRow_55 ?_
              refine lv_iload_n hx hb d_T_addRow_58 rfl (lv_at hl 0 rfl) ?_
              refine lv_iconst (v := 1) hx hb d_T_addRow_59 (by decide) ?_
              refine lv_isub hx hb d_T_addRow_60 (tpi (y := nI (i - 1)) (pk_sub (a := i) (b := 1) (by omega)) ?_)
              refine nqld (f := (shF t.rs i t.rc)) (n := 256) hx hb hK hP (2) 5 rfl rfl (i - 1) (by omega) (by decide) ((shF_at (by omega)).trans er1) d_T_addRow_61 ?_
              obtain ⟨qp17, ep18⟩ := List.getElem?_of_mem (show ((a1, .inr (11, [.ref na1, .ref va1, .ref no1, .ref tx1])) : Nat × va_E) ∈ TbW dA ta (TB.s_rs t (shF t.rs i t.rc)) ++ (ws) from (List.mem_append_right _ j1))
              refine nqst (r := ("SeriesVault$Series", TS, 4)) (f := (shF t.rs i t.rc)) (n := 256) hx hb hK hP hD hS (2) 5 (qp17) 11 rfl rfl ep18 rfl (i) (by omega) (by decide) d_T_addRow_62 (fun H locs hP hD hS => ?_)
              have hP : va_P D vwCl (TbW dA ta (TB.s_rs t (va_up (shF t.rs i t.rc) i (some a1))) ++ (ws)) H := hP
              have hD : va_D A (TbW dA ta (TB.s_rs t (va_up (shF t.rs i t.rc) i (some a1))) ++ (ws)) := hD
              refine lv_iinc (k := 0) (v := nI (i - 1)) hx hb d_T_addRow_63 hl rfl (iincM (by omega)) (by decide) rfl (fun ls hl => ?_)
              have hl : lv_has ls 4 [(3, .int (nI (i - 1))), (2, .int (nI (plT NL t.nc t.rc RS S))), (0, .ref (ta 0)), (1, .ref a)] := hl
              refine lv_goto hx hb d_T_addRow_66 (tgt := 44) rfl ?_
              have e9 : (TB.s_rs t (va_up (shF t.rs i t.rc) i (some a1)) : TB) = TB.s_rs t (shF t.rs (i - 1) t.rc) := by rw [show (shF t.rs (i - 1) t.rc) = (va_up (shF t.rs i t.rc) i (some a1)) from (shF_s (by omega) i1 er1).symm] <;> rfl
              rw [e9] at hP hD
              exact ih44 _ (by omega) (i - 1) (by omega) (by omega) rfl H _ ls hP hD hS (lv_sub hl [0, 1, 2, 3] rfl)
        have e9 : (t : TB) = TB.s_rs t (shF t.rs t.rc t.rc) := by rw [show (shF t.rs t.rc t.rc) = t.rs from (shF_0 _ _)] <;> rfl
        rw [e9] at hP hD
        exact L44 _ t.rc (Nat.le_refl _) (by omega) rfl H _ ls hP hD hS (lv_sub hl [0, 1, 2, 3] rfl)
      · have g13 := g13
        exact rfV hx hb hr hlk hS t (by unfold adT; rw [if_pos (Or.inr ⟨Nat.not_le.mp g5, g13⟩)]) hP hD (Nat.le_of_ble_eq_true rfl) (Nat.le_of_ble_eq_true rfl) d_T_addRow_38
theorem d_T_makeNumber_0 : decode prog_11_method_2_code 0 = .ok (.aload_n 0, 1) := by decide +kernel
theorem d_T_makeNumber_1 : decode prog_11_method_2_code 1 = .ok (.iload_n 3, 1) := by decide +kernel
theorem d_T_makeNumber_2 : decode prog_11_method_2_code 2 = .ok (.putfield 30, 3) := by decide +kernel
theorem d_T_makeNumber_5 : decode prog_11_method_2_code 5 = .ok (.aload_n 0, 1) := by decide +kernel
theorem d_T_makeNumber_6 : decode prog_11_method_2_code 6 = .ok (.iconst 0, 1) := by decide +kernel
theorem d_T_makeNumber_7 : decode prog_11_method_2_code 7 = .ok (.putfield 34, 3) := by decide +kernel
theorem d_T_makeNumber_10 : decode prog_11_method_2_code 10 = .ok (.aload_n 0, 1) := by decide +kernel
theorem d_T_makeNumber_11 : decode prog_11_method_2_code 11 = .ok (.iconst 1, 1) := by decide +kernel
theorem d_T_makeNumber_12 : decode prog_11_method_2_code 12 = .ok (.putfield 37, 3) := by decide +kernel
theorem d_T_makeNumber_15 : decode prog_11_method_2_code 15 = .ok (.aload_n 0, 1) := by decide +kernel
theorem d_T_makeNumber_16 : decode prog_11_method_2_code 16 = .ok (.invokevirtual 40, 3) := by decide +kernel
theorem d_T_makeNumber_19 : decode prog_11_method_2_code 19 = .ok (.iconst 0, 1) := by decide +kernel
theorem d_T_makeNumber_20 : decode prog_11_method_2_code 20 = .ok (.istore 4, 2) := by decide +kernel
theorem d_T_makeNumber_22 : decode prog_11_method_2_code 22 = .ok (.iload 4, 2) := by decide +kernel
theorem d_T_makeNumber_24 : decode prog_11_method_2_code 24 = .ok (.iload_n 3, 1) := by decide +kernel
theorem d_T_makeNumber_25 : decode prog_11_method_2_code 25 = .ok (.if_icmp .ge 17, 3) := by decide +kernel
theorem d_T_makeNumber_42 : decode prog_11_method_2_code 42 = .ok (.return_, 1) := by decide +kernel
theorem d_T_makeNumber_28 : decode prog_11_method_2_code 28 = .ok (.aload_n 0, 1) := by decide +kernel
theorem d_T_makeNumber_29 : decode prog_11_method_2_code 29 = .ok (.iconst 0, 1) := by decide +kernel
theorem d_T_makeNumber_30 : decode prog_11_method_2_code 30 = .ok (.iload 4, 2) := by decide +kernel
theorem d_T_makeNumber_32 : decode prog_11_method_2_code 32 = .ok (.lload_n 1, 1) := by decide +kernel
theorem d_T_makeNumber_33 : decode prog_11_method_2_code 33 = .ok (.invokevirtual 43, 3) := by decide +kernel
theorem d_T_makeNumber_36 : decode prog_11_method_2_code 36 = .ok (.iinc 4 1, 3) := by decide +kernel
theorem d_T_makeNumber_39 : decode prog_11_method_2_code 39 = .ok (.goto (-17), 3) := by decide +kernel
theorem w1428 : Cond.methodLink "SeriesVault$Table" 40 ⟨"SeriesVault$Table", "clearCells", "()V"⟩ ∈ aW := aw_of (tb_7 (List.mem_of_getElem? (i := 144) rfl)) rfl
theorem w1429 : Cond.code ⟨"SeriesVault$Table", "clearCells", "()V"⟩ prog_11_method_8_code 2 none ∈ aW := aw_of (tb_7 (List.mem_of_getElem? (i := 147) rfl)) rfl
theorem w1430 : Cond.instanceMethod ⟨"SeriesVault$Table", "clearCells", "()V"⟩ ∈ aW := aw_of (tb_7 (List.mem_of_getElem? (i := 145) rfl)) rfl
theorem w1431 : Cond.selects "SeriesVault$Table" ⟨"SeriesVault$Table", "clearCells", "()V"⟩ ⟨"SeriesVault$Table", "clearCells", "()V"⟩ ∈ aW := aw_of (tb_7 (List.mem_of_getElem? (i := 146) rfl)) rfl
theorem w1432 : Cond.methodLink "SeriesVault$Table" 43 ⟨"SeriesVault$Table", "put", "(IIJ)V"⟩ ∈ aW := aw_of (tb_7 (List.mem_of_getElem? (i := 180) rfl)) rfl
theorem w1433 : Cond.code ⟨"SeriesVault$Table", "put", "(IIJ)V"⟩ prog_11_method_11_code 5 none ∈ aW := aw_of (tb_7 (List.mem_of_getElem? (i := 183) rfl)) rfl
theorem w1434 : Cond.instanceMethod ⟨"SeriesVault$Table", "put", "(IIJ)V"⟩ ∈ aW := aw_of (tb_7 (List.mem_of_getElem? (i := 181) rfl)) rfl
theorem w1435 : Cond.selects "SeriesVault$Table" ⟨"SeriesVault$Table", "put", "(IIJ)V"⟩ ⟨"SeriesVault$Table", "put", "(IIJ)V"⟩ ∈ aW := aw_of (tb_7 (List.mem_of_getElem? (i := 182) rfl)) rfl
set_option maxHeartbeats 4000000 in
set_option maxRecDepth 100000 in
theorem v_TmakeNumber (l : Launch) (D : va_G) (dA : Nat → ClassId) (sz : Nat) (ws : va_W) (ta : Nat → Nat) (t : TB) (v : Int64) (n : Nat) (hcN : t.cN ≤ 65536) (h1 : n ≤ 64) (h2 : 64 ≤ t.cN) : Met l ⟨"SeriesVault$Table", "makeNumber", "(JI)V"⟩ [Cond.code ⟨"SeriesVault$Table", "makeNumber", "(JI)V"⟩ prog_11_method_2_code 5 none] { frames := 4, cells := 0, slots := 0, locals := 68 } (pC D dA [.ref (ta 0), .long v, .int (nI n)] (TbW dA ta t ++ (ws)) sz) (va_Qv (fun (u9 : TB) => u9 = t.num v n) (fun (u9 : TB) t9 => bW D (va_A (TbW dA ta t ++ (ws)) sz) (TbW dA ta u9 ++ (ws)) t9) (va_A (TbW dA ta t ++ (ws)) sz)) 0 0 (va_A (TbW dA ta t ++ (ws)) sz) := by
  refine mkC (y := ⟨"SeriesVault$Table", "makeNumber", "(JI)V"⟩) (cc := prog_11_method_2_code) (maxL := 5) (av := [.ref (ta 0), .long v, .int (nI n)]) (ws := TbW dA ta t ++ (ws)) (sz := sz) (Qc := fun A => va_Qv (fun (u9 : TB) => u9 = t.num v n) (fun (u9 : TB) t9 => bW D A (TbW dA ta u9 ++ (ws)) t9) A) (by decide) (Nat.le_of_ble_eq_true rfl) ?_
  intro A p e s m below meth c ls hsz hB
  obtain ⟨hx, hb, hr, hml, hown, hin, hlk, hE, hK, hP, hD, hS, hA, hN, hl⟩ := hB
  have hown : s.vm.findClass "SeriesVault$Table" = some m.cls := hown
  have hl : lv_has ls 5 [(0, .ref (ta 0)), (1, .long v), (3, .int (nI n))] := hl
  obtain ⟨H, hH⟩ : ∃ z, z = s.heap := ⟨_, rfl⟩
  have hP : va_P D vwCl (TbW dA ta t ++ (ws)) H := by rw [hH]; exact hP
  have hS : va_S A s.heap H [] := by rw [hH]; exact hS
  rw [← hH]
  refine lv_aload_n hx hb d_T_makeNumber_0 rfl (lv_at hl 0 rfl) ?_
  refine lv_iload_n hx hb d_T_makeNumber_1 rfl (lv_at hl 2 rfl) ?_
  refine pF (v := .int (nI n)) hx hb hown hE hK hP hD hS 0 rfl rfl layT tyT tokT nmT 2 (by decide) w1367 rfl rfl rfl (Nat.le_of_ble_eq_true rfl) d_T_makeNumber_2 (fun H locs hP hD hS => ?_)
  have hP : va_P D vwCl (TbW dA ta (TB.s_wi t n) ++ (ws)) H := hP
  have hD : va_D A (TbW dA ta (TB.s_wi t n) ++ (ws)) := hD
  refine lv_aload_n hx hb d_T_makeNumber_5 rfl (lv_at hl 0 rfl) ?_
  refine lv_iconst (v := 0) hx hb d_T_makeNumber_6 (by decide) ?_
  refine pF (v := .int (nI 0)) hx hb hown hE hK hP hD hS 0 rfl rfl layT tyT tokT nmT 1 (by decide) w1376 rfl rfl rfl (Nat.le_of_ble_eq_true rfl) d_T_makeNumber_7 (fun H locs hP hD hS => ?_)
  have hP : va_P D vwCl (TbW dA ta (TB.s_wi (TB.s_nc t 0) n) ++ (ws)) H := hP
  have hD : va_D A (TbW dA ta (TB.s_wi (TB.s_nc t 0) n) ++ (ws)) := hD
  refine lv_aload_n hx hb d_T_makeNumber_10 rfl (lv_at hl 0 rfl) ?_
  refine lv_iconst (v := 1) hx hb d_T_makeNumber_11 (by decide) ?_
  refine pF (v := .int (nI 1)) hx hb hown hE hK hP hD hS 0 rfl rfl layT tyT tokT nmT 3 (by decide) w1368 rfl rfl rfl (Nat.le_of_ble_eq_true rfl) d_T_makeNumber_12 (fun H locs hP hD hS => ?_)
  have hP : va_P D vwCl (TbW dA ta (TB.s_rc (TB.s_wi (TB.s_nc t 0) n) 1) ++ (ws)) H := hP
  have hD : va_D A (TbW dA ta (TB.s_rc (TB.s_wi (TB.s_nc t 0) n) 1) ++ (ws)) := hD
  refine lv_aload_n hx hb d_T_makeNumber_15 rfl (lv_at hl 0 rfl) ?_
  refine jkV (wr := []) (rnV (As := []) (rest := []) hx hb hml hown hE hK (hN _ _ hS) hP hD (v_TclearCells_0 l D dA H.size ws ta (TB.s_rc (TB.s_wi (TB.s_nc t 0) n) 1) hcN (show 1 * n ≤ t.cN by omega) (show 1 ≤ 256 from by omega)) (q0 := 0) rfl rfl w1429 w1428 w1430 w1431 w807 rfl rfl ⟨⟨by decide, by decide⟩, rfl⟩ ⟨(Nat.le_of_ble_eq_true rfl), (Nat.le_of_ble_eq_true rfl)⟩ rfl hl.1 rfl (Nat.le_of_ble_eq_true rfl) d_T_makeNumber_16 ⟨(Nat.le_of_ble_eq_true rfl), (Nat.le_of_ble_eq_true rfl)⟩) hP hD hS hA (fun u2 H locs hp9 hP hD hS => ?_)
  have hP : va_P D vwCl (TbW dA ta (TB.s_ce (TB.s_th (TB.s_rc (TB.s_wi (TB.s_nc t 0) n) 1) (filG t.th 0 0 1)) (filG t.ce 0 0 (1 * n))) ++ (ws)) H := hP
  have hD : va_D A (TbW dA ta (TB.s_ce (TB.s_th (TB.s_rc (TB.s_wi (TB.s_nc t 0) n) 1) (filG t.th 0 0 1)) (filG t.ce 0 0 (1 * n))) ++ (ws)) := hD
  refine lv_iconst (v := 0) hx hb d_T_makeNumber_19 (by decide) ?_
  refine lv_istore hx hb d_T_makeNumber_20 hl (by decide) rfl (fun ls hl => ?_)
  have hl : lv_has ls 5 [(4, .int 0), (0, .ref (ta 0)), (1, .long v), (3, .int (nI n))] := hl
  have L22 : ∀ (k9 : Nat) (w : Nat) (z : TB) (i1 : w ≤ n) (ez : z = mkG (TB.cl (TB.s_rc (TB.s_wi (TB.s_nc t 0) n) 1)) v w) (hk9 : n - w = k9), ∀ (H : Heap) (locs : List Loc) (ls : Array Slot) (hP : va_P D vwCl (TbW dA ta z ++ (ws)) H) (hD : va_D A (TbW dA ta z ++ (ws))) (hS : va_S A s.heap H locs) (hl : lv_has ls 5 [(4, .int (nI w)), (1, .long v), (3, .int (nI n)), (0, .ref (ta 0))]), W p l e ({ frames := 4, cells := 0, slots := 0, locals := 68 } : Room) s m ([.ref (ta 0), .long v, .int (nI n)] : List Value).toArray below meth c H locs 0 0 (MQ below (va_Qv (fun (u9 : TB) => u9 = t.num v n) (fun (u9 : TB) t9 => bW D A (TbW dA ta u9 ++ (ws)) t9) A) ([.ref (ta 0), .long v, .int (nI n)] : List Value).toArray s 0 0 A) (F0 m 22 ls []) := by
    intro k9
    induction k9 using Nat.strongRecOn with
    | ind k9 ih22 =>
      intro w z i1 ez hk9 H locs ls hP hD hS hl
      have zk := mkG_k (TB.cl (TB.s_rc (TB.s_wi (TB.s_nc t 0) n) 1)) v w
      rw [← ez] at zk
      obtain ⟨k1, k2, k3, k4⟩ := zk
      have k1 : z.wi = n := k1
      have k3 : z.cN = t.cN := k3
      refine lv_iload hx hb d_T_makeNumber_22 (lv_at hl 0 rfl) ?_
      refine lv_iload_n hx hb d_T_makeNumber_24 rfl (lv_at hl 2 rfl) ?_
      refine lv_icmp_ge hx hb d_T_makeNumber_25 (tgt := 42) rfl (fun g3 => ?_) (fun g3 => ?_)
      · have g3 := (nI_leI (a := n) (b := w) (by omega) (by omega)).mp g3
        exact rfV hx hb hr hlk hS z (by rw [ez, show w = n by omega]; rfl) hP hD (Nat.le_of_ble_eq_true rfl) (Nat.le_of_ble_eq_true rfl) d_T_makeNumber_42
      · have g3 := mt (nI_leI (a := n) (b := w) (by omega) (by omega)).mpr g3
        refine lv_aload_n hx hb d_T_makeNumber_28 rfl (lv_at hl 3 rfl) ?_
        refine lv_iconst (v := 0) hx hb d_T_makeNumber_29 (by decide) ?_
        refine lv_iload hx hb d_T_makeNumber_30 (lv_at hl 0 rfl) ?_
        refine lv_lload_n hx hb d_T_makeNumber_32 rfl (lv_at hl 1 rfl) ?_
        refine jkV (wr := []) (rnV (As := [.int 0, .int (nI w), .long v]) (rest := []) hx hb hml hown hE hK (hN _ _ hS) hP hD (v_Tput l D dA H.size ws ta z 0 w v (show z.cN ≤ 65536 by omega) (by rw [k1, k3]; omega) (show 0 < 256 from by omega)) (q0 := 0) rfl rfl w1433 w1432 w1434 w1435 w807 rfl rfl ⟨⟨by decide, by decide⟩, rfl⟩ ⟨(Nat.le_of_ble_eq_true rfl), (Nat.le_of_ble_eq_true rfl)⟩ rfl hl.1 rfl (Nat.le_of_ble_eq_true rfl) d_T_makeNumber_33 ⟨(Nat.le_of_ble_eq_true rfl), (Nat.le_of_ble_eq_true rfl)⟩) hP hD hS hA (fun u5 H locs hp9 hP hD hS => ?_)
        have hP : va_P D vwCl (TbW dA ta (TB.s_ce (TB.s_th z (va_up z.th 0 (z.th 0 ||| bitL w))) (va_up z.ce (0 * z.wi + w) v)) ++ (ws)) H := hP
        have hD : va_D A (TbW dA ta (TB.s_ce (TB.s_th z (va_up z.th 0 (z.th 0 ||| bitL w))) (va_up z.ce (0 * z.wi + w) v)) ++ (ws)) := hD
        refine lv_iinc (k := 0) (v := nI (w + 1)) hx hb d_T_makeNumber_36 hl rfl (iincN (w) 1 1 (by decide)) (by decide) rfl (fun ls hl => ?_)
        have hl : lv_has ls 5 [(4, .int (nI (w + 1))), (1, .long v), (3, .int (nI n)), (0, .ref (ta 0))] := hl
        refine lv_goto hx hb d_T_makeNumber_39 (tgt := 22) rfl ?_
        exact ih22 _ (by omega) (w + 1) (TB.s_ce (TB.s_th z (va_up z.th 0 (z.th 0 ||| bitL w))) (va_up z.ce (0 * z.wi + w) v)) (by omega) (by rw [ez]; rfl) rfl H _ ls hP hD hS (lv_sub hl [0, 1, 2, 3] rfl)
  exact L22 _ 0 (TB.s_ce (TB.s_th (TB.s_rc (TB.s_wi (TB.s_nc t 0) n) 1) (filG t.th 0 0 1)) (filG t.ce 0 0 (1 * n))) (Nat.zero_le _) rfl rfl H _ ls hP hD hS (lv_sub hl [0, 2, 3, 1] rfl)
end
section
/-! Tables joined. -/
def TB.jr (sg : Int32) (t : TB) (both : Int64) (L R : Nat → Int64) (g : Nat) : TB := TB.s_ce (TB.s_th t (va_up t.th g (jrW sg both L R t.ce (g * t.wi) t.wi).1)) (jrW sg both L R t.ce (g * t.wi) t.wi).2
/-- left: row a of this one and row b of the other; right: row a of the other and row b of this one -/
def TB.jrl (sg : Int32) (t u : TB) (a b g : Nat) : TB := t.jr sg (t.th a &&& u.th b) (fun w => t.ce (a * t.wi + w)) (fun w => u.ce (b * u.wi + w)) g
def TB.jrr (sg : Int32) (t u : TB) (a b g : Nat) : TB := t.jr sg (u.th a &&& t.th b) (fun w => u.ce (a * u.wi + w)) (fun w => t.ce (b * t.wi + w)) g
def jsL (sg : Int32) (t u : TB) : Nat → TB
  | 0 => t
  | r + 1 => TB.jrl sg (jsL sg t u r) u r 0 r
def jsR (sg : Int32) (t u : TB) : Nat → TB
  | 0 => t
  | r + 1 => TB.jrr sg (jsR sg t u r) u 0 r r
theorem jsL_k (sg : Int32) (t u : TB) : ∀ r, (jsL sg t u r).wi = t.wi ∧ (jsL sg t u r).rc = t.rc ∧ (jsL sg t u r).cN = t.cN ∧ (jsL sg t u r).rs = t.rs ∧ (jsL sg t u r).cA = t.cA
  | 0 => ⟨rfl, rfl, rfl, rfl, rfl⟩
  | r + 1 => jsL_k sg t u r
theorem jsR_k (sg : Int32) (t u : TB) : ∀ r, (jsR sg t u r).wi = t.wi ∧ (jsR sg t u r).rc = t.rc ∧ (jsR sg t u r).cN = t.cN ∧ (jsR sg t u r).rs = t.rs ∧ (jsR sg t u r).cA = t.cA
  | 0 => ⟨rfl, rfl, rfl, rfl, rfl⟩
  | r + 1 => jsR_k sg t u r
def TB.jsl (sg : Int32) (t u : TB) : TB := if u.rc = 0 then TB.de (TB.s_rc t 0) else (jsL sg t u t.rc).de
def TB.jsr (sg : Int32) (t u : TB) : TB := if u.rc = 0 then TB.de (TB.s_rc t 0) else (jsR sg t u t.rc).de
/-- where the other one's rows stand that are not below -/
def jmO (lt : Nat → Bool) (rc : Nat) : Nat → Nat → Nat
  | 0, o => o
  | f + 1, o => if lt o = true then jmO lt rc f (o + 1) else o
theorem jmO_y {lt : Nat → Bool} {rc o : Nat} (h : o < rc) (h1 : lt o = true) : jmO lt rc (rc - o) o = jmO lt rc (rc - (o + 1)) (o + 1) := by
  rw [show rc - o = rc - (o + 1) + 1 by omega]
  show (if _ then _ else _) = _
  rw [if_pos h1]
theorem jmO_n {lt : Nat → Bool} {rc o : Nat} (h : lt o = false) : jmO lt rc (rc - o) o = o := by
  cases rc - o with
  | zero => rfl
  | succ f =>
    show (if _ then _ else _) = _
    rw [if_neg (by rw [h]; decide)]
theorem jmO_z {lt : Nat → Bool} {rc o : Nat} (h : rc ≤ o) : jmO lt rc (rc - o) o = o := by
  rw [show rc - o = 0 by omega]; rfl
def jmQ (NL : Nat → List Int32) (nc : Nat) (u : TB) (RU : Nat → List LB) (S : List LB) (o : Nat) : Nat := jmO (ltT NL nc RU S) u.rc (u.rc - o) o
def jmS (sg : Int32) (NL : Nat → List Int32) (nc : Nat) (u : TB) (RS RU : Nat → List LB) (r : Nat) (n o : Nat) (z : TB) : Nat × Nat × TB := if jmQ NL nc u RU (RS r) o < u.rc ∧ cmT NL nc (RU (jmQ NL nc u RU (RS r) o)) (RS r) = 0 then (n + 1, jmQ NL nc u RU (RS r) o, TB.jrl sg (z.mv r n) u n (jmQ NL nc u RU (RS r) o) n) else (n, jmQ NL nc u RU (RS r) o, z)
def jmG (sg : Int32) (NL : Nat → List Int32) (t u : TB) (RS RU : Nat → List LB) : Nat → Nat × Nat × TB
  | 0 => (0, 0, t)
  | r + 1 => jmS sg NL t.nc u RS RU r (jmG sg NL t u RS RU r).1 (jmG sg NL t u RS RU r).2.1 (jmG sg NL t u RS RU r).2.2
section JM
variable {sg : Int32} {NL : Nat → List Int32} {nc : Nat} {u : TB} {RS RU : Nat → List LB} {r n o o' : Nat} {z : TB}
theorem jmS_y (h : jmQ NL nc u RU (RS r) o = o') (h1 : o' < u.rc) (h2 : cmT NL nc (RU o') (RS r) = 0) : jmS sg NL nc u RS RU r n o z = (n + 1, o', TB.jrl sg (z.mv r n) u n o' n) := by
  unfold jmS; rw [h, if_pos ⟨h1, h2⟩]
theorem jmS_n1 (h : jmQ NL nc u RU (RS r) o = o') (h1 : u.rc ≤ o') : jmS sg NL nc u RS RU r n o z = (n, o', z) := by
  unfold jmS; rw [h, if_neg (fun h => by omega)]
theorem jmS_n2 (h : jmQ NL nc u RU (RS r) o = o') (h2 : ¬ cmT NL nc (RU o') (RS r) = 0) : jmS sg NL nc u RS RU r n o z = (n, o', z) := by
  unfold jmS; rw [h, if_neg (fun h => h2 h.2)]
end JM
/-- what stays while rows are joined: sizes, names; rows at or behind r are as they were -/
def jmK (t : TB) (r n : Nat) (z : TB) : Prop := z.wi = t.wi ∧ z.rc = t.rc ∧ z.cN = t.cN ∧ n ≤ r ∧ z.nm = t.nm ∧ z.nc = t.nc ∧ z.cA = t.cA ∧ ∀ q, r ≤ q → z.rs q = t.rs q
theorem jmK_n {t z : TB} {r n : Nat} (h : jmK t r n z) : jmK t (r + 1) n z := by
  obtain ⟨h1, h2, h3, h4, h5, h6, h7, h8⟩ := h
  exact ⟨h1, h2, h3, by omega, h5, h6, h7, fun q hq => h8 q (by omega)⟩
theorem jmK_y {sg : Int32} {t z u : TB} {r n o : Nat} (h : jmK t r n z) : jmK t (r + 1) (n + 1) (TB.jrl sg (z.mv r n) u n o n) := by
  obtain ⟨h1, h2, h3, h4, h5, h6, h7, h8⟩ := h
  refine ⟨h1, h2, h3, by omega, h5, h6, h7, fun q hq => ?_⟩
  show va_up z.rs n (z.rs r) q = t.rs q
  rw [va_up_ne _ _ (by omega)]
  exact h8 q (by omega)
theorem rsAll_mv {dA : Nat → ClassId} {ws : va_W} {z : TB} {r n : Nat} (h : rsAll dA ws z.rs) : rsAll dA ws (z.mv r n).rs := rsAll_up h (fun a ha => h r a ha)
def TB.jm (sg : Int32) (NL : Nat → List Int32) (t u : TB) (RS RU : Nat → List LB) : TB := TB.de (TB.s_rc (jmG sg NL t u RS RU t.rc).2.2 (jmG sg NL t u RS RU t.rc).1)
theorem d_T_joinWithSingle_0 : decode prog_11_method_18_code 0 = .ok (.aload_n 2, 1) := by decide +kernel
theorem d_T_joinWithSingle_1 : decode prog_11_method_18_code 1 = .ok (.getfield 37, 3) := by decide +kernel
theorem d_T_joinWithSingle_4 : decode prog_11_method_18_code 4 = .ok (.ifCond .ne 8, 3) := by decide +kernel
theorem d_T_joinWithSingle_12 : decode prog_11_method_18_code 12 = .ok (.iconst 0, 1) := by decide +kernel
theorem d_T_joinWithSingle_13 : decode prog_11_method_18_code 13 = .ok (.istore 4, 2) := by decide +kernel
theorem d_T_joinWithSingle_15 : decode prog_11_method_18_code 15 = .ok (.iload 4, 2) := by decide +kernel
theorem d_T_joinWithSingle_17 : decode prog_11_method_18_code 17 = .ok (.aload_n 0, 1) := by decide +kernel
theorem d_T_joinWithSingle_18 : decode prog_11_method_18_code 18 = .ok (.getfield 37, 3) := by decide +kernel
theorem d_T_joinWithSingle_21 : decode prog_11_method_18_code 21 = .ok (.if_icmp .ge 40, 3) := by decide +kernel
theorem d_T_joinWithSingle_61 : decode prog_11_method_18_code 61 = .ok (.aload_n 0, 1) := by decide +kernel
theorem d_T_joinWithSingle_62 : decode prog_11_method_18_code 62 = .ok (.invokevirtual 97, 3) := by decide +kernel
theorem d_T_joinWithSingle_65 : decode prog_11_method_18_code 65 = .ok (.return_, 1) := by decide +kernel
theorem d_T_joinWithSingle_24 : decode prog_11_method_18_code 24 = .ok (.iload_n 3, 1) := by decide +kernel
theorem d_T_joinWithSingle_25 : decode prog_11_method_18_code 25 = .ok (.ifCond .eq 18, 3) := by decide +kernel
theorem d_T_joinWithSingle_43 : decode prog_11_method_18_code 43 = .ok (.aload_n 0, 1) := by decide +kernel
theorem d_T_joinWithSingle_44 : decode prog_11_method_18_code 44 = .ok (.iload_n 1, 1) := by decide +kernel
theorem d_T_joinWithSingle_45 : decode prog_11_method_18_code 45 = .ok (.aload_n 0, 1) := by decide +kernel
theorem d_T_joinWithSingle_46 : decode prog_11_method_18_code 46 = .ok (.iload 4, 2) := by decide +kernel
theorem d_T_joinWithSingle_48 : decode prog_11_method_18_code 48 = .ok (.aload_n 2, 1) := by decide +kernel
theorem d_T_joinWithSingle_49 : decode prog_11_method_18_code 49 = .ok (.iconst 0, 1) := by decide +kernel
theorem d_T_joinWithSingle_50 : decode prog_11_method_18_code 50 = .ok (.iload 4, 2) := by decide +kernel
theorem d_T_joinWithSingle_52 : decode prog_11_method_18_code 52 = .ok (.invokevirtual 93, 3) := by decide +kernel
theorem d_T_joinWithSingle_55 : decode prog_11_method_18_code 55 = .ok (.iinc 4 1, 3) := by decide +kernel
theorem d_T_joinWithSingle_58 : decode prog_11_method_18_code 58 = .ok (.goto (-43), 3) := by decide +kernel
theorem w1436 : Cond.methodLink "SeriesVault$Table" 97 ⟨"SeriesVault$Table", "dropEmptyRows", "()V"⟩ ∈ aW := aw_of (tb_8 (List.mem_of_getElem? (i := 62) rfl)) rfl
theorem w1437 : Cond.code ⟨"SeriesVault$Table", "dropEmptyRows", "()V"⟩ prog_11_method_14_code 3 none ∈ aW := aw_of (tb_8 (List.mem_of_getElem? (i := 31) rfl)) rfl
theorem w1438 : Cond.instanceMethod ⟨"SeriesVault$Table", "dropEmptyRows", "()V"⟩ ∈ aW := aw_of (tb_8 (List.mem_of_getElem? (i := 29) rfl)) rfl
theorem w1439 : Cond.selects "SeriesVault$Table" ⟨"SeriesVault$Table", "dropEmptyRows", "()V"⟩ ⟨"SeriesVault$Table", "dropEmptyRows", "()V"⟩ ∈ aW := aw_of (tb_8 (List.mem_of_getElem? (i := 30) rfl)) rfl
theorem w1440 : Cond.methodLink "SeriesVault$Table" 93 ⟨"SeriesVault$Table", "joinRow", "(ILSeriesVault$Table;ILSeriesVault$Table;II)V"⟩ ∈ aW := aw_of (tb_8 (List.mem_of_getElem? (i := 54) rfl)) rfl
theorem w1441 : Cond.code ⟨"SeriesVault$Table", "joinRow", "(ILSeriesVault$Table;ILSeriesVault$Table;II)V"⟩ prog_11_method_19_code 17 none ∈ aW := aw_of (tb_8 (List.mem_of_getElem? (i := 57) rfl)) rfl
theorem w1442 : Cond.instanceMethod ⟨"SeriesVault$Table", "joinRow", "(ILSeriesVault$Table;ILSeriesVault$Table;II)V"⟩ ∈ aW := aw_of (tb_8 (List.mem_of_getElem? (i := 56) rfl)) rfl
theorem w1443 : Cond.selects "SeriesVault$Table" ⟨"SeriesVault$Table", "joinRow", "(ILSeriesVault$Table;ILSeriesVault$Table;II)V"⟩ ⟨"SeriesVault$Table", "joinRow", "(ILSeriesVault$Table;ILSeriesVault$Table;II)V"⟩ ∈ aW := aw_pr (List.mem_map.mpr ⟨_, pv_4 (List.mem_of_getElem? (i := 15) rfl), rfl⟩) rfl
set_option maxHeartbeats 4000000 in
set_option maxRecDepth 100000 in
theorem v_TjoinWithSingle_l (l : Launch) (D : va_G) (dA : Nat → ClassId) (sz : Nat) (ws : va_W) (ta : Nat → Nat) (t : TB) (tb : Nat → Nat) (u : TB) (sg : Int32) (hop : isOp sg) (hcN : t.cN ≤ 65536) (hcM : u.cN ≤ 65536) (h1 : t.rc * t.wi ≤ t.cN) (h2 : t.rc ≤ 256) (hw : u.wi = t.wi) (h3 : u.rc * u.wi ≤ u.cN) (h4 : u.rc ≤ 256) (hrs : rsAll dA ws t.rs) (hu : ¬ u.rc = 0) : Met l ⟨"SeriesVault$Table", "joinWithSingle", "(ILSeriesVault$Table;Z)V"⟩ [Cond.code ⟨"SeriesVault$Table", "joinWithSingle", "(ILSeriesVault$Table;Z)V"⟩ prog_11_method_18_code 5 none] { frames := 3, cells := 0, slots := 0, locals := 84 } (pC D dA [.ref (ta 0), .int sg, .ref (tb 0), .int 0] (TbW dA ta t ++ (TbW dA tb u ++ (ws))) sz) (va_Qv (fun (u9 : TB) => u9 = (jsL sg t u t.rc).de) (fun (u9 : TB) t9 => bW D (va_A (TbW dA ta t ++ (TbW dA tb u ++ (ws))) sz) (TbW dA ta u9 ++ (TbW dA tb u ++ (ws))) t9) (va_A (TbW dA ta t ++ (TbW dA tb u ++ (ws))) sz)) 0 0 (va_A (TbW dA ta t ++ (TbW dA tb u ++ (ws))) sz) := by
  refine mkC (y := ⟨"SeriesVault$Table", "joinWithSingle", "(ILSeriesVault$Table;Z)V"⟩) (cc := prog_11_method_18_code) (maxL := 5) (av := [.ref (ta 0), .int sg, .ref (tb 0), .int 0]) (ws := TbW dA ta t ++ (TbW dA tb u ++ (ws))) (sz := sz) (Qc := fun A => va_Qv (fun (u9 : TB) => u9 = (jsL sg t u t.rc).de) (fun (u9 : TB) t9 => bW D A (TbW dA ta u9 ++ (TbW dA tb u ++ (ws))) t9) A) (by decide) (Nat.le_of_ble_eq_true rfl) ?_
  intro A p e s m below meth c ls hsz hB
  obtain ⟨hx, hb, hr, hml, hown, hin, hlk, hE, hK, hP, hD, hS, hA, hN, hl⟩ := hB
  have hown : s.vm.findClass "SeriesVault$Table" = some m.cls := hown
  have hl : lv_has ls 5 [(0, .ref (ta 0)), (1, .int sg), (2, .ref (tb 0)), (3, .int 0)] := hl
  obtain ⟨H, hH⟩ : ∃ z, z = s.heap := ⟨_, rfl⟩
  have hP : va_P D vwCl (TbW dA ta t ++ (TbW dA tb u ++ (ws))) H := by rw [hH]; exact hP
  have hS : va_S A s.heap H [] := by rw [hH]; exact hS
  rw [← hH]
  refine lv_aload_n hx hb d_T_joinWithSingle_0 rfl (lv_at hl 2 rfl) ?_
  refine gF (v := .int (nI u.rc)) hx hb hown hE hK hP 5 rfl rfl layT 3 (by decide) w1368 rfl d_T_joinWithSingle_1 ?_
  refine lv_if_ne hx hb d_T_joinWithSingle_4 (tgt := 12) rfl (fun _ => ?_) (fun h9 => absurd h9 (mt (nI_eq (a := u.rc) (b := 0) (by omega) (by omega)).mp hu))
  refine lv_iconst (v := 0) hx hb d_T_joinWithSingle_12 (by decide) ?_
  refine lv_istore hx hb d_T_joinWithSingle_13 hl (by decide) rfl (fun ls hl => ?_)
  have hl : lv_has ls 5 [(4, .int 0), (0, .ref (ta 0)), (1, .int sg), (2, .ref (tb 0)), (3, .int 0)] := hl
  have L15 : ∀ (k9 : Nat) (i : Nat) (z : TB) (i1 : i ≤ t.rc) (ez : z = jsL sg t u i) (hk9 : t.rc - i = k9), ∀ (H : Heap) (locs : List Loc) (ls : Array Slot) (hP : va_P D vwCl (TbW dA ta z ++ (TbW dA tb u ++ (ws))) H) (hD : va_D A (TbW dA ta z ++ (TbW dA tb u ++ (ws)))) (hS : va_S A s.heap H locs) (hl : lv_has ls 5 [(4, .int (nI i)), (0, .ref (ta 0)), (1, .int sg), (2, .ref (tb 0)), (3, .int 0)]), W p l e ({ frames := 3, cells := 0, slots := 0, locals := 84 } : Room) s m ([.ref (ta 0), .int sg, .ref (tb 0), .int 0] : List Value).toArray below meth c H locs 0 0 (MQ below (va_Qv (fun (u9 : TB) => u9 = (jsL sg t u t.rc).de) (fun (u9 : TB) t9 => bW D A (TbW dA ta u9 ++ (TbW dA tb u ++ (ws))) t9) A) ([.ref (ta 0), .int sg, .ref (tb 0), .int 0] : List Value).toArray s 0 0 A) (F0 m 15 ls []) := by
    intro k9
    induction k9 using Nat.strongRecOn with
    | ind k9 ih15 =>
      intro i z i1 ez hk9 H locs ls hP hD hS hl
      have zk := jsL_k sg t u i
      rw [← ez] at zk
      obtain ⟨k1, k2, k3, k4, k5⟩ := zk
      refine lv_iload hx hb d_T_joinWithSingle_15 (lv_at hl 0 rfl) ?_
      refine lv_aload_n hx hb d_T_joinWithSingle_17 rfl (lv_at hl 1 rfl) ?_
      refine gF (v := .int (nI z.rc)) hx hb hown hE hK hP 0 rfl rfl layT 3 (by decide) w1368 rfl d_T_joinWithSingle_18 ?_
      refine lv_icmp_ge hx hb d_T_joinWithSingle_21 (tgt := 61) rfl (fun g1 => ?_) (fun g1 => ?_)
      · have g1 := (nI_leI (a := z.rc) (b := i) (by omega) (by omega)).mp g1
        have k2 : z.rc = t.rc := k2
        have k3 : z.cN = t.cN := k3
        refine lv_aload_n hx hb d_T_joinWithSingle_61 rfl (lv_at hl 1 rfl) ?_
        refine jkV (wr := []) (rnV (As := []) (rest := []) hx hb hml hown hE hK (hN _ _ hS) hP hD (v_TdropEmptyRows l D dA H.size (TbW dA tb u ++ (ws)) ta z (show z.cN ≤ 65536 by omega) (rsAll_m (fun _ hm => (List.mem_append_right _ hm)) (by rw [k4]; exact hrs)) (by rw [k1, k2, k3]; exact h1) (show z.rc ≤ 256 by omega)) (q0 := 0) rfl rfl w1437 w1436 w1438 w1439 w807 rfl rfl ⟨⟨by decide, by decide⟩, rfl⟩ ⟨(Nat.le_of_ble_eq_true rfl), (Nat.le_of_ble_eq_true rfl)⟩ rfl hl.1 rfl (Nat.le_of_ble_eq_true rfl) d_T_joinWithSingle_62 ⟨(Nat.le_of_ble_eq_true rfl), (Nat.le_of_ble_eq_true rfl)⟩) hP hD hS hA (fun u3 H locs hp9 hP hD hS => ?_)
        obtain ⟨y4, h9u⟩ : ∃ z9, z9 = u3 := ⟨_, rfl⟩
        subst h9u
        have hP : va_P D vwCl (TbW dA ta y4 ++ (TbW dA tb u ++ (ws))) H := hP
        have hD : va_D A (TbW dA ta y4 ++ (TbW dA tb u ++ (ws))) := hD
        have f_e_5 := hp9
        exact rfV hx hb hr hlk hS y4 (by rw [f_e_5, ez, show i = t.rc by omega]) hP hD (Nat.le_of_ble_eq_true rfl) (Nat.le_of_ble_eq_true rfl) d_T_joinWithSingle_65
      · have g1 := mt (nI_leI (a := z.rc) (b := i) (by omega) (by omega)).mpr g1
        have k2 : z.rc = t.rc := k2
        have k3 : z.cN = t.cN := k3
        have hu0 : 0 < u.rc := Nat.pos_of_ne_zero hu
        refine lv_iload_n hx hb d_T_joinWithSingle_24 rfl (lv_at hl 4 rfl) ?_
        refine lv_if_eq hx hb d_T_joinWithSingle_25 (tgt := 43) rfl (fun _ => ?_) (fun h9 => absurd (by decide) h9)
        refine lv_aload_n hx hb d_T_joinWithSingle_43 rfl (lv_at hl 1 rfl) ?_
        refine lv_iload_n hx hb d_T_joinWithSingle_44 rfl (lv_at hl 2 rfl) ?_
        refine lv_aload_n hx hb d_T_joinWithSingle_45 rfl (lv_at hl 1 rfl) ?_
        refine lv_iload hx hb d_T_joinWithSingle_46 (lv_at hl 0 rfl) ?_
        refine lv_aload_n hx hb d_T_joinWithSingle_48 rfl (lv_at hl 3 rfl) ?_
        refine lv_iconst (v := 0) hx hb d_T_joinWithSingle_49 (by decide) ?_
        refine lv_iload hx hb d_T_joinWithSingle_50 (lv_at hl 0 rfl) ?_
        refine jkV (wr := []) (rnV (As := [.int sg, .ref (ta 0), .int (nI i), .ref (tb 0), .int 0, .int (nI i)]) (rest := []) hx hb hml hown hE hK (hN _ _ hS) hP hD (v_TjoinRow_l l D dA H.size ws ta z tb u sg i 0 i hop (show z.cN ≤ 65536 by omega) hcM (show i < 256 from by omega) (show 0 < 256 from by omega) (show i < 256 from by omega) (by rw [k1, k3]; exact mul_le_of (show i < t.rc by omega) h1) (by rw [k1, k3]; exact mul_le_of (show i < t.rc by omega) h1) (by rw [k1, ← hw]; exact mul_le_of (show 0 < u.rc by omega) h3) (Nat.le_refl _)) (q0 := 0) rfl rfl w1441 w1440 w1442 w1443 w807 rfl rfl ⟨⟨by decide, by decide⟩, rfl⟩ ⟨(Nat.le_of_ble_eq_true rfl), (Nat.le_of_ble_eq_true rfl)⟩ rfl hl.1 rfl (Nat.le_of_ble_eq_true rfl) d_T_joinWithSingle_52 ⟨(Nat.le_of_ble_eq_true rfl), (Nat.le_of_ble_eq_true rfl)⟩) hP hD hS hA (fun u7 H locs hp9 hP hD hS => ?_)
        have hP : va_P D vwCl (TbW dA ta (TB.s_ce (TB.s_th z (va_up z.th i (jrW sg ((z.th i) &&& (u.th 0)) (fun w => z.ce (i * z.wi + w)) (fun w => u.ce (0 * u.wi + w)) z.ce (i * z.wi) z.wi).1)) ((jrW sg ((z.th i) &&& (u.th 0)) (fun w => z.ce (i * z.wi + w)) (fun w => u.ce (0 * u.wi + w)) z.ce (i * z.wi) z.wi).2)) ++ (TbW dA tb u ++ (ws))) H := hP
        have hD : va_D A (TbW dA ta (TB.s_ce (TB.s_th z (va_up z.th i (jrW sg ((z.th i) &&& (u.th 0)) (fun w => z.ce (i * z.wi + w)) (fun w => u.ce (0 * u.wi + w)) z.ce (i * z.wi) z.wi).1)) ((jrW sg ((z.th i) &&& (u.th 0)) (fun w => z.ce (i * z.wi + w)) (fun w => u.ce (0 * u.wi + w)) z.ce (i * z.wi) z.wi).2)) ++ (TbW dA tb u ++ (ws))) := hD
        refine lv_iinc (k := 0) (v := nI (i + 1)) hx hb d_T_joinWithSingle_55 hl rfl (iincN (i) 1 1 (by decide)) (by decide) rfl (fun ls hl => ?_)
        have hl : lv_has ls 5 [(4, .int (nI (i + 1))), (0, .ref (ta 0)), (1, .int sg), (2, .ref (tb 0)), (3, .int 0)] := hl
        refine lv_goto hx hb d_T_joinWithSingle_58 (tgt := 15) rfl ?_
        exact ih15 _ (by omega) (i + 1) (TB.s_ce (TB.s_th z (va_up z.th i (jrW sg ((z.th i) &&& (u.th 0)) (fun w => z.ce (i * z.wi + w)) (fun w => u.ce (0 * u.wi + w)) z.ce (i * z.wi) z.wi).1)) ((jrW sg ((z.th i) &&& (u.th 0)) (fun w => z.ce (i * z.wi + w)) (fun w => u.ce (0 * u.wi + w)) z.ce (i * z.wi) z.wi).2)) (by omega) (by rw [ez]; rfl) rfl H _ ls hP hD hS (lv_sub hl [0, 1, 2, 3, 4] rfl)
  exact L15 _ 0 t (Nat.zero_le _) rfl rfl H _ ls hP hD hS (lv_sub hl [0, 1, 2, 3, 4] rfl)
theorem d_T_joinWithSingle_28 : decode prog_11_method_18_code 28 = .ok (.aload_n 0, 1) := by decide +kernel
theorem d_T_joinWithSingle_29 : decode prog_11_method_18_code 29 = .ok (.iload_n 1, 1) := by decide +kernel
theorem d_T_joinWithSingle_30 : decode prog_11_method_18_code 30 = .ok (.aload_n 2, 1) := by decide +kernel
theorem d_T_joinWithSingle_31 : decode prog_11_method_18_code 31 = .ok (.iconst 0, 1) := by decide +kernel
theorem d_T_joinWithSingle_32 : decode prog_11_method_18_code 32 = .ok (.aload_n 0, 1) := by decide +kernel
theorem d_T_joinWithSingle_33 : decode prog_11_method_18_code 33 = .ok (.iload 4, 2) := by decide +kernel
theorem d_T_joinWithSingle_35 : decode prog_11_method_18_code 35 = .ok (.iload 4, 2) := by decide +kernel
theorem d_T_joinWithSingle_37 : decode prog_11_method_18_code 37 = .ok (.invokevirtual 93, 3) := by decide +kernel
theorem d_T_joinWithSingle_40 : decode prog_11_method_18_code 40 = .ok (.goto 15, 3) := by decide +kernel
set_option maxHeartbeats 4000000 in
set_option maxRecDepth 100000 in
theorem v_TjoinWithSingle_r (l : Launch) (D : va_G) (dA : Nat → ClassId) (sz : Nat) (ws : va_W) (ta : Nat → Nat) (t : TB) (tb : Nat → Nat) (u : TB) (sg : Int32) (hop : isOp sg) (hcN : t.cN ≤ 65536) (hcM : u.cN ≤ 65536) (h1 : t.rc * t.wi ≤ t.cN) (h2 : t.rc ≤ 256) (hw : u.wi = t.wi) (h3 : u.rc * u.wi ≤ u.cN) (h4 : u.rc ≤ 256) (hrs : rsAll dA ws t.rs) (hu : ¬ u.rc = 0) : Met l ⟨"SeriesVault$Table", "joinWithSingle", "(ILSeriesVault$Table;Z)V"⟩ [Cond.code ⟨"SeriesVault$Table", "joinWithSingle", "(ILSeriesVault$Table;Z)V"⟩ prog_11_method_18_code 5 none] { frames := 3, cells := 0, slots := 0, locals := 84 } (pC D dA [.ref (ta 0), .int sg, .ref (tb 0), .int 1] (TbW dA ta t ++ (TbW dA tb u ++ (ws))) sz) (va_Qv (fun (u9 : TB) => u9 = (jsR sg t u t.rc).de) (fun (u9 : TB) t9 => bW D (va_A (TbW dA ta t ++ (TbW dA tb u ++ (ws))) sz) (TbW dA ta u9 ++ (TbW dA tb u ++ (ws))) t9) (va_A (TbW dA ta t ++ (TbW dA tb u ++ (ws))) sz)) 0 0 (va_A (TbW dA ta t ++ (TbW dA tb u ++ (ws))) sz) := by
  refine mkC (y := ⟨"SeriesVault$Table", "joinWithSingle", "(ILSeriesVault$Table;Z)V"⟩) (cc := prog_11_method_18_code) (maxL := 5) (av := [.ref (ta 0), .int sg, .ref (tb 0), .int 1]) (ws := TbW dA ta t ++ (TbW dA tb u ++ (ws))) (sz := sz) (Qc := fun A => va_Qv (fun (u9 : TB) => u9 = (jsR sg t u t.rc).de) (fun (u9 : TB) t9 => bW D A (TbW dA ta u9 ++ (TbW dA tb u ++ (ws))) t9) A) (by decide) (Nat.le_of_ble_eq_true rfl) ?_
  intro A p e s m below meth c ls hsz hB
  obtain ⟨hx, hb, hr, hml, hown, hin, hlk, hE, hK, hP, hD, hS, hA, hN, hl⟩ := hB
  have hown : s.vm.findClass "SeriesVault$Table" = some m.cls := hown
  have hl : lv_has ls 5 [(0, .ref (ta 0)), (1, .int sg), (2, .ref (tb 0)), (3, .int 1)] := hl
  obtain ⟨H, hH⟩ : ∃ z, z = s.heap := ⟨_, rfl⟩
  have hP : va_P D vwCl (TbW dA ta t ++ (TbW dA tb u ++ (ws))) H := by rw [hH]; exact hP
  have hS : va_S A s.heap H [] := by rw [hH]; exact hS
  rw [← hH]
  refine lv_aload_n hx hb d_T_joinWithSingle_0 rfl (lv_at hl 2 rfl) ?_
  refine gF (v := .int (nI u.rc)) hx hb hown hE hK hP 5 rfl rfl layT 3 (by decide) w1368 rfl d_T_joinWithSingle_1 ?_
  refine lv_if_ne hx hb d_T_joinWithSingle_4 (tgt := 12) rfl (fun _ => ?_) (fun h9 => absurd h9 (mt (nI_eq (a := u.rc) (b := 0) (by omega) (by omega)).mp hu))
  refine lv_iconst (v := 0) hx hb d_T_joinWithSingle_12 (by decide) ?_
  refine lv_istore hx hb d_T_joinWithSingle_13 hl (by decide) rfl (fun ls hl => ?_)
  have hl : lv_has ls 5 [(4, .int 0), (0, .ref (ta 0)), (1, .int sg), (2, .ref (tb 0)), (3, .int 1)] := hl
  have L15 : ∀ (k9 : Nat) (i : Nat) (z : TB) (i1 : i ≤ t.rc) (ez : z = jsR sg t u i) (hk9 : t.rc - i = k9), ∀ (H : Heap) (locs : List Loc) (ls : Array Slot) (hP : va_P D vwCl (TbW dA ta z ++ (TbW dA tb u ++ (ws))) H) (hD : va_D A (TbW dA ta z ++ (TbW dA tb u ++ (ws)))) (hS : va_S A s.heap H locs) (hl : lv_has ls 5 [(4, .int (nI i)), (0, .ref (ta 0)), (1, .int sg), (2, .ref (tb 0)), (3, .int 1)]), W p l e ({ frames := 3, cells := 0, slots := 0, locals := 84 } : Room) s m ([.ref (ta 0), .int sg, .ref (tb 0), .int 1] : List Value).toArray below meth c H locs 0 0 (MQ below (va_Qv (fun (u9 : TB) => u9 = (jsR sg t u t.rc).de) (fun (u9 : TB) t9 => bW D A (TbW dA ta u9 ++ (TbW dA tb u ++ (ws))) t9) A) ([.ref (ta 0), .int sg, .ref (tb 0), .int 1] : List Value).toArray s 0 0 A) (F0 m 15 ls []) := by
    intro k9
    induction k9 using Nat.strongRecOn with
    | ind k9 ih15 =>
      intro i z i1 ez hk9 H locs ls hP hD hS hl
      have zk := jsR_k sg t u i
      rw [← ez] at zk
      obtain ⟨k1, k2, k3, k4, k5⟩ := zk
      refine lv_iload hx hb d_T_joinWithSingle_15 (lv_at hl 0 rfl) ?_
      refine lv_aload_n hx hb d_T_joinWithSingle_17 rfl (lv_at hl 1 rfl) ?_
      refine gF (v := .int (nI z.rc)) hx hb hown hE hK hP 0 rfl rfl layT 3 (by decide) w1368 rfl d_T_joinWithSingle_18 ?_
      refine lv_icmp_ge hx hb d_T_joinWithSingle_21 (tgt := 61) rfl (fun g1 => ?_) (fun g1 => ?_)
      · have g1 := (nI_leI (a := z.rc) (b := i) (by omega) (by omega)).mp g1
        have k2 : z.rc = t.rc := k2
        have k3 : z.cN = t.cN := k3
        refine lv_aload_n hx hb d_T_joinWithSingle_61 rfl (lv_at hl 1 rfl) ?_
        refine jkV (wr := []) (rnV (As := []) (rest := []) hx hb hml hown hE hK (hN _ _ hS) hP hD (v_TdropEmptyRows l D dA H.size (TbW dA tb u ++ (ws)) ta z (show z.cN ≤ 65536 by omega) (rsAll_m (fun _ hm => (List.mem_append_right _ hm)) (by rw [k4]; exact hrs)) (by rw [k1, k2, k3]; exact h1) (show z.rc ≤ 256 by omega)) (q0 := 0) rfl rfl w1437 w1436 w1438 w1439 w807 rfl rfl ⟨⟨by decide, by decide⟩, rfl⟩ ⟨(Nat.le_of_ble_eq_true rfl), (Nat.le_of_ble_eq_true rfl)⟩ rfl hl.1 rfl (Nat.le_of_ble_eq_true rfl) d_T_joinWithSingle_62 ⟨(Nat.le_of_ble_eq_true rfl), (Nat.le_of_ble_eq_true rfl)⟩) hP hD hS hA (fun u3 H locs hp9 hP hD hS => ?_)
        obtain ⟨y4, h9u⟩ : ∃ z9, z9 = u3 := ⟨_, rfl⟩
        subst h9u
        have hP : va_P D vwCl (TbW dA ta y4 ++ (TbW dA tb u ++ (ws))) H := hP
        have hD : va_D A (TbW dA ta y4 ++ (TbW dA tb u ++ (ws))) := hD
        have f_e_5 := hp9
        exact rfV hx hb hr hlk hS y4 (by rw [f_e_5, ez, show i = t.rc by omega]) hP hD (Nat.le_of_ble_eq_true rfl) (Nat.le_of_ble_eq_true rfl) d_T_joinWithSingle_65
      · have g1 := mt (nI_leI (a := z.rc) (b := i) (by omega) (by omega)).mpr g1
        have k2 : z.rc = t.rc := k2
        have k3 : z.cN = t.cN := k3
        have hu0 : 0 < u.rc := Nat.pos_of_ne_zero hu
        refine lv_iload_n hx hb d_T_joinWithSingle_24 rfl (lv_at hl 4 rfl) ?_
        refine lv_if_eq hx hb d_T_joinWithSingle_25 (tgt := 43) rfl (fun h9 => absurd h9 (by decide)) (fun _ => ?_)
        refine lv_aload_n hx hb d_T_joinWithSingle_28 rfl (lv_at hl 1 rfl) ?_
        refine lv_iload_n hx hb d_T_joinWithSingle_29 rfl (lv_at hl 2 rfl) ?_
        refine lv_aload_n hx hb d_T_joinWithSingle_30 rfl (lv_at hl 3 rfl) ?_
        refine lv_iconst (v := 0) hx hb d_T_joinWithSingle_31 (by decide) ?_
        refine lv_aload_n hx hb d_T_joinWithSingle_32 rfl (lv_at hl 1 rfl) ?_
        refine lv_iload hx hb d_T_joinWithSingle_33 (lv_at hl 0 rfl) ?_
        refine lv_iload hx hb d_T_joinWithSingle_35 (lv_at hl 0 rfl) ?_
        refine jkV (wr := []) (rnV (As := [.int sg, .ref (tb 0), .int 0, .ref (ta 0), .int (nI i), .int (nI i)]) (rest := []) hx hb hml hown hE hK (hN _ _ hS) hP hD (v_TjoinRow_r l D dA H.size ws ta z tb u sg 0 i i hop (show z.cN ≤ 65536 by omega) hcM (show 0 < 256 from by omega) (show i < 256 from by omega) (show i < 256 from by omega) (by rw [k1, k3]; exact mul_le_of (show i < t.rc by omega) h1) (by rw [k1, ← hw]; exact mul_le_of (show 0 < u.rc by omega) h3) (by rw [k1, k3]; exact mul_le_of (show i < t.rc by omega) h1) (Nat.le_refl _)) (q0 := 0) rfl rfl w1441 w1440 w1442 w1443 w807 rfl rfl ⟨⟨by decide, by decide⟩, rfl⟩ ⟨(Nat.le_of_ble_eq_true rfl), (Nat.le_of_ble_eq_true rfl)⟩ rfl hl.1 rfl (Nat.le_of_ble_eq_true rfl) d_T_joinWithSingle_37 ⟨(Nat.le_of_ble_eq_true rfl), (Nat.le_of_ble_eq_true rfl)⟩) hP hD hS hA (fun u7 H locs hp9 hP hD hS => ?_)
        have hP : va_P D vwCl (TbW dA ta (TB.s_ce (TB.s_th z (va_up z.th i (jrW sg ((u.th 0) &&& (z.th i)) (fun w => u.ce (0 * u.wi + w)) (fun w => z.ce (i * z.wi + w)) z.ce (i * z.wi) z.wi).1)) ((jrW sg ((u.th 0) &&& (z.th i)) (fun w => u.ce (0 * u.wi + w)) (fun w => z.ce (i * z.wi + w)) z.ce (i * z.wi) z.wi).2)) ++ (TbW dA tb u ++ (ws))) H := hP
        have hD : va_D A (TbW dA ta (TB.s_ce (TB.s_th z (va_up z.th i (jrW sg ((u.th 0) &&& (z.th i)) (fun w => u.ce (0 * u.wi + w)) (fun w => z.ce (i * z.wi + w)) z.ce (i * z.wi) z.wi).1)) ((jrW sg ((u.th 0) &&& (z.th i)) (fun w => u.ce (0 * u.wi + w)) (fun w => z.ce (i * z.wi + w)) z.ce (i * z.wi) z.wi).2)) ++ (TbW dA tb u ++ (ws))) := hD
        refine lv_goto hx hb d_T_joinWithSingle_40 (tgt := 55) rfl ?_
        refine lv_iinc (k := 0) (v := nI (i + 1)) hx hb d_T_joinWithSingle_55 hl rfl (iincN (i) 1 1 (by decide)) (by decide) rfl (fun ls hl => ?_)
        have hl : lv_has ls 5 [(4, .int (nI (i + 1))), (0, .ref (ta 0)), (1, .int sg), (2, .ref (tb 0)), (3, .int 1)] := hl
        refine lv_goto hx hb d_T_joinWithSingle_58 (tgt := 15) rfl ?_
        exact ih15 _ (by omega) (i + 1) (TB.s_ce (TB.s_th z (va_up z.th i (jrW sg ((u.th 0) &&& (z.th i)) (fun w => u.ce (0 * u.wi + w)) (fun w => z.ce (i * z.wi + w)) z.ce (i * z.wi) z.wi).1)) ((jrW sg ((u.th 0) &&& (z.th i)) (fun w => u.ce (0 * u.wi + w)) (fun w => z.ce (i * z.wi + w)) z.ce (i * z.wi) z.wi).2)) (by omega) (by rw [ez]; rfl) rfl H _ ls hP hD hS (lv_sub hl [0, 1, 2, 3, 4] rfl)
  exact L15 _ 0 t (Nat.zero_le _) rfl rfl H _ ls hP hD hS (lv_sub hl [0, 1, 2, 3, 4] rfl)
theorem d_T_joinWithSingle_7 : decode prog_11_method_18_code 7 = .ok (.aload_n 0, 1) := by decide +kernel
theorem d_T_joinWithSingle_8 : decode prog_11_method_18_code 8 = .ok (.iconst 0, 1) := by decide +kernel
theorem d_T_joinWithSingle_9 : decode prog_11_method_18_code 9 = .ok (.putfield 37, 3) := by decide +kernel
set_option maxHeartbeats 4000000 in
set_option maxRecDepth 100000 in
theorem v_TjoinWithSingle_0 (l : Launch) (D : va_G) (dA : Nat → ClassId) (sz : Nat) (ws : va_W) (ta : Nat → Nat) (t : TB) (tb : Nat → Nat) (u : TB) (sg : Int32) (le : Bool) (hcN : t.cN ≤ 65536) (hu : u.rc = 0) (hrs : rsAll dA ws t.rs) : Met l ⟨"SeriesVault$Table", "joinWithSingle", "(ILSeriesVault$Table;Z)V"⟩ [Cond.code ⟨"SeriesVault$Table", "joinWithSingle", "(ILSeriesVault$Table;Z)V"⟩ prog_11_method_18_code 5 none] { frames := 3, cells := 0, slots := 0, locals := 84 } (pC D dA [.ref (ta 0), .int sg, .ref (tb 0), .int (bI le)] (TbW dA ta t ++ (TbW dA tb u ++ (ws))) sz) (va_Qv (fun (u9 : TB) => u9 = TB.de (TB.s_rc t 0)) (fun (u9 : TB) t9 => bW D (va_A (TbW dA ta t ++ (TbW dA tb u ++ (ws))) sz) (TbW dA ta u9 ++ (TbW dA tb u ++ (ws))) t9) (va_A (TbW dA ta t ++ (TbW dA tb u ++ (ws))) sz)) 0 0 (va_A (TbW dA ta t ++ (TbW dA tb u ++ (ws))) sz) := by
  refine mkC (y := ⟨"SeriesVault$Table", "joinWithSingle", "(ILSeriesVault$Table;Z)V"⟩) (cc := prog_11_method_18_code) (maxL := 5) (av := [.ref (ta 0), .int sg, .ref (tb 0), .int (bI le)]) (ws := TbW dA ta t ++ (TbW dA tb u ++ (ws))) (sz := sz) (Qc := fun A => va_Qv (fun (u9 : TB) => u9 = TB.de (TB.s_rc t 0)) (fun (u9 : TB) t9 => bW D A (TbW dA ta u9 ++ (TbW dA tb u ++ (ws))) t9) A) (by decide) (Nat.le_of_ble_eq_true rfl) ?_
  intro A p e s m below meth c ls hsz hB
  obtain ⟨hx, hb, hr, hml, hown, hin, hlk, hE, hK, hP, hD, hS, hA, hN, hl⟩ := hB
  have hown : s.vm.findClass "SeriesVault$Table" = some m.cls := hown
  have hl : lv_has ls 5 [(0, .ref (ta 0)), (1, .int sg), (2, .ref (tb 0)), (3, .int (bI le))] := hl
  obtain ⟨H, hH⟩ : ∃ z, z = s.heap := ⟨_, rfl⟩
  have hP : va_P D vwCl (TbW dA ta t ++ (TbW dA tb u ++ (ws))) H := by rw [hH]; exact hP
  have hS : va_S A s.heap H [] := by rw [hH]; exact hS
  rw [← hH]
  refine lv_aload_n hx hb d_T_joinWithSingle_0 rfl (lv_at hl 2 rfl) ?_
  refine gF (v := .int (nI u.rc)) hx hb hown hE hK hP 5 rfl rfl layT 3 (by decide) w1368 rfl d_T_joinWithSingle_1 ?_
  refine lv_if_ne hx hb d_T_joinWithSingle_4 (tgt := 12) rfl (fun h9 => absurd ((nI_eq (a := u.rc) (b := 0) (by omega) (by omega)).mpr hu) h9) (fun _ => ?_)
  refine lv_aload_n hx hb d_T_joinWithSingle_7 rfl (lv_at hl 0 rfl) ?_
  refine lv_iconst (v := 0) hx hb d_T_joinWithSingle_8 (by decide) ?_
  refine pF (v := .int (nI 0)) hx hb hown hE hK hP hD hS 0 rfl rfl layT tyT tokT nmT 3 (by decide) w1368 rfl rfl rfl (Nat.le_of_ble_eq_true rfl) d_T_joinWithSingle_9 (fun H locs hP hD hS => ?_)
  have hP : va_P D vwCl (TbW dA ta (TB.s_rc t 0) ++ (TbW dA tb u ++ (ws))) H := hP
  have hD : va_D A (TbW dA ta (TB.s_rc t 0) ++ (TbW dA tb u ++ (ws))) := hD
  refine lv_iconst (v := 0) hx hb d_T_joinWithSingle_12 (by decide) ?_
  refine lv_istore hx hb d_T_joinWithSingle_13 hl (by decide) rfl (fun ls hl => ?_)
  have hl : lv_has ls 5 [(4, .int 0), (0, .ref (ta 0)), (1, .int sg), (2, .ref (tb 0)), (3, .int (bI le))] := hl
  refine lv_iload hx hb d_T_joinWithSingle_15 (lv_at hl 0 rfl) ?_
  refine lv_aload_n hx hb d_T_joinWithSingle_17 rfl (lv_at hl 1 rfl) ?_
  refine gF (v := .int 0) hx hb hown hE hK hP 0 rfl rfl layT 3 (by decide) w1368 rfl d_T_joinWithSingle_18 ?_
  refine lv_icmp_ge hx hb d_T_joinWithSingle_21 (tgt := 61) rfl (fun _ => ?_) (fun h9 => absurd (by decide) h9)
  refine lv_aload_n hx hb d_T_joinWithSingle_61 rfl (lv_at hl 1 rfl) ?_
  refine jkV (wr := []) (rnV (As := []) (rest := []) hx hb hml hown hE hK (hN _ _ hS) hP hD (v_TdropEmptyRows l D dA H.size (TbW dA tb u ++ (ws)) ta (TB.s_rc t 0) hcN (rsAll_m (fun _ hm => (List.mem_append_right _ hm)) hrs) (show 0 * t.wi ≤ t.cN by rw [Nat.zero_mul]; exact Nat.zero_le _) (show 0 ≤ 256 from by omega)) (q0 := 0) rfl rfl w1437 w1436 w1438 w1439 w807 rfl rfl ⟨⟨by decide, by decide⟩, rfl⟩ ⟨(Nat.le_of_ble_eq_true rfl), (Nat.le_of_ble_eq_true rfl)⟩ rfl hl.1 rfl (Nat.le_of_ble_eq_true rfl) d_T_joinWithSingle_62 ⟨(Nat.le_of_ble_eq_true rfl), (Nat.le_of_ble_eq_true rfl)⟩) hP hD hS hA (fun u2 H locs hp9 hP hD hS => ?_)
  obtain ⟨y3, h9u⟩ : ∃ z9, z9 = u2 := ⟨_, rfl⟩
  subst h9u
  have hP : va_P D vwCl (TbW dA ta y3 ++ (TbW dA tb u ++ (ws))) H := hP
  have hD : va_D A (TbW dA ta y3 ++ (TbW dA tb u ++ (ws))) := hD
  have f_e_4 := hp9
  exact rfV hx hb hr hlk hS y3 f_e_4 hP hD (Nat.le_of_ble_eq_true rfl) (Nat.le_of_ble_eq_true rfl) d_T_joinWithSingle_65
theorem d_T_rowText_0 : decode prog_11_method_12_code 0 = .ok (.aload_n 0, 1) := by decide +kernel
theorem d_T_rowText_1 : decode prog_11_method_12_code 1 = .ok (.getfield 19, 3) := by decide +kernel
theorem d_T_rowText_4 : decode prog_11_method_12_code 4 = .ok (.iload_n 1, 1) := by decide +kernel
theorem d_T_rowText_5 : decode prog_11_method_12_code 5 = .ok (.aaload, 1) := by decide +kernel
theorem d_T_rowText_6 : decode prog_11_method_12_code 6 = .ok (.aload_n 0, 1) := by decide +kernel
theorem d_T_rowText_7 : decode prog_11_method_12_code 7 = .ok (.getfield 11, 3) := by decide +kernel
theorem d_T_rowText_10 : decode prog_11_method_12_code 10 = .ok (.iload_n 2, 1) := by decide +kernel
theorem d_T_rowText_11 : decode prog_11_method_12_code 11 = .ok (.aaload, 1) := by decide +kernel
theorem d_T_rowText_12 : decode prog_11_method_12_code 12 = .ok (.invokevirtual 59, 3) := by decide +kernel
theorem d_T_rowText_15 : decode prog_11_method_12_code 15 = .ok (.areturn, 1) := by decide +kernel
set_option maxHeartbeats 4000000 in
set_option maxRecDepth 100000 in
theorem v_TrowText (l : Launch) (D : va_G) (dA : Nat → ClassId) (sz : Nat) (ws : va_W) (ta : Nat → Nat) (t : TB) (NL : Nat → List Int32) (RS : Nat → List LB) (r : Nat) (k : Nat) (hnm : nmOk dA ws t.nm t.nc NL) (hnc : t.nc ≤ 6) (hrs : rsOk dA ws t.rs t.rc RS) (h1 : t.rc ≤ 256) (h2 : r < t.rc) (h3 : k < t.nc) : Met l ⟨"SeriesVault$Table", "rowText", "(II)LSeriesVault$Word;"⟩ [Cond.code ⟨"SeriesVault$Table", "rowText", "(II)LSeriesVault$Word;"⟩ prog_11_method_12_code 3 (some (FieldType.object "SeriesVault$Word"))] { frames := 3, cells := 0, slots := 0, locals := 44 } (pC D dA [.ref (ta 0), .int (nI r), .int (nI k)] (TbW dA ta t ++ (ws)) sz) (va_Qr (fun (_ : Unit) => True) (fun (u9 : Unit) (r9 : Nat) t9 => (isWo dA ws r9 (valS (RS r) (NL k))) ∧ bW D (va_A (TbW dA ta t ++ (ws)) sz) (TbW dA ta t ++ (ws)) t9) (va_A (TbW dA ta t ++ (ws)) sz)) 0 0 (va_A (TbW dA ta t ++ (ws)) sz) := by
  refine mkC (y := ⟨"SeriesVault$Table", "rowText", "(II)LSeriesVault$Word;"⟩) (cc := prog_11_method_12_code) (maxL := 3) (av := [.ref (ta 0), .int (nI r), .int (nI k)]) (ws := TbW dA ta t ++ (ws)) (sz := sz) (Qc := fun A => va_Qr (fun (_ : Unit) => True) (fun (u9 : Unit) (r9 : Nat) t9 => (isWo dA ws r9 (valS (RS r) (NL k))) ∧ bW D A (TbW dA ta t ++ (ws)) t9) A) (by decide) (Nat.le_of_ble_eq_true rfl) ?_
  intro A p e s m below meth c ls hsz hB
  obtain ⟨hx, hb, hr, hml, hown, hin, hlk, hE, hK, hP, hD, hS, hA, hN, hl⟩ := hB
  have hown : s.vm.findClass "SeriesVault$Table" = some m.cls := hown
  have hl : lv_has ls 3 [(0, .ref (ta 0)), (1, .int (nI r)), (2, .int (nI k))] := hl
  obtain ⟨H, hH⟩ : ∃ z, z = s.heap := ⟨_, rfl⟩
  have hP : va_P D vwCl (TbW dA ta t ++ (ws)) H := by rw [hH]; exact hP
  have hS : va_S A s.heap H [] := by rw [hH]; exact hS
  rw [← hH]
  refine lv_aload_n hx hb d_T_rowText_0 rfl (lv_at hl 0 rfl) ?_
  refine gF (v := .ref (ta 2)) hx hb hown hE hK hP 0 rfl rfl layT 4 (by decide) w787 rfl d_T_rowText_1 ?_
  obtain ⟨a1, er1, hs1, ho1⟩ := hrs r (by omega)
  have hs1c := hs1
  obtain ⟨na1, va1, no1, tx1, fn1, fv1, j1, -⟩ := hs1c
  obtain ⟨p1, ep1, wp1, lp1⟩ := hnm k h3
  refine lv_iload_n hx hb d_T_rowText_4 rfl (lv_at hl 1 rfl) ?_
  refine nqld (f := t.rs) (n := 256) hx hb hK hP (2) 5 rfl rfl (r) (by omega) (by decide) er1 d_T_rowText_5 ?_
  refine lv_aload_n hx hb d_T_rowText_6 rfl (lv_at hl 0 rfl) ?_
  refine gF (v := .ref (ta 1)) hx hb hown hE hK hP 0 rfl rfl layT 0 (by decide) w784 rfl d_T_rowText_7 ?_
  refine lv_iload_n hx hb d_T_rowText_10 rfl (lv_at hl 2 rfl) ?_
  refine nqld (f := t.nm) (n := 6) hx hb hK hP (1) 6 rfl rfl (k) (by omega) (by decide) ep1 d_T_rowText_11 ?_
  obtain ⟨qp1, ep2⟩ := List.getElem?_of_mem (show ((a1, .inr (11, [.ref na1, .ref va1, .ref no1, .ref tx1])) : Nat × va_E) ∈ TbW dA ta t ++ (ws) from (List.mem_append_right _ j1))
  refine jkR (wr := []) (rnV (As := [.ref p1]) (rest := []) hx hb hml hown hE hK (hN _ _ hS) hP hD (v_SvalueOf2 l D dA H.size (TbW dA ta t ++ (ws)) ws a1 (RS r) p1 (NL k) (fun _ hm => (List.mem_append_right _ hm)) hs1 ho1 (isWo_m (fun _ hm => (List.mem_append_right _ hm)) wp1) lp1) (q0 := qp1) ep2 rfl w1378 w1377 w1379 w1380 w1288 rfl rfl ⟨⟨by decide, by decide⟩, rfl⟩ ⟨(Nat.le_of_ble_eq_true rfl), (Nat.le_of_ble_eq_true rfl)⟩ rfl hl.1 rfl (Nat.le_of_ble_eq_true rfl) d_T_rowText_12 ⟨(Nat.le_of_ble_eq_true rfl), (Nat.le_of_ble_eq_true rfl)⟩) hP hD hS hA (fun u4 r3 H locs hp9 hP hD hS => ?_)
  have hP : va_P D vwCl (TbW dA ta t ++ (ws)) H := hP
  have hD : va_D A (TbW dA ta t ++ (ws)) := hD
  have f_w_5 := hp9
  exact rkR hx hb hr (Or.inl ⟨_, rfl⟩) hlk hS () f_w_5 hP hD (Nat.le_of_ble_eq_true rfl) (Nat.le_of_ble_eq_true rfl) d_T_rowText_15
end
section
theorem d_T_joinRows_0 : decode prog_11_method_17_code 0 = .ok (.iconst 0, 1) := by decide +kernel
theorem d_T_joinRows_1 : decode prog_11_method_17_code 1 = .ok (.istore_n 3, 1) := by decide +kernel
theorem d_T_joinRows_2 : decode prog_11_method_17_code 2 = .ok (.iconst 0, 1) := by decide +kernel
theorem d_T_joinRows_3 : decode prog_11_method_17_code 3 = .ok (.istore 4, 2) := by decide +kernel
theorem d_T_joinRows_5 : decode prog_11_method_17_code 5 = .ok (.iconst 0, 1) := by decide +kernel
theorem d_T_joinRows_6 : decode prog_11_method_17_code 6 = .ok (.istore 5, 2) := by decide +kernel
theorem d_T_joinRows_8 : decode prog_11_method_17_code 8 = .ok (.iload 5, 2) := by decide +kernel
theorem d_T_joinRows_10 : decode prog_11_method_17_code 10 = .ok (.aload_n 0, 1) := by decide +kernel
theorem d_T_joinRows_11 : decode prog_11_method_17_code 11 = .ok (.getfield 37, 3) := by decide +kernel
theorem d_T_joinRows_14 : decode prog_11_method_17_code 14 = .ok (.if_icmp .ge 96, 3) := by decide +kernel
theorem d_T_joinRows_110 : decode prog_11_method_17_code 110 = .ok (.aload_n 0, 1) := by decide +kernel
theorem d_T_joinRows_111 : decode prog_11_method_17_code 111 = .ok (.iload_n 3, 1) := by decide +kernel
theorem d_T_joinRows_112 : decode prog_11_method_17_code 112 = .ok (.putfield 37, 3) := by decide +kernel
theorem d_T_joinRows_115 : decode prog_11_method_17_code 115 = .ok (.aload_n 0, 1) := by decide +kernel
theorem d_T_joinRows_116 : decode prog_11_method_17_code 116 = .ok (.invokevirtual 97, 3) := by decide +kernel
theorem d_T_joinRows_119 : decode prog_11_method_17_code 119 = .ok (.return_, 1) := by decide +kernel
theorem d_T_joinRows_17 : decode prog_11_method_17_code 17 = .ok (.iload 4, 2) := by decide +kernel
theorem d_T_joinRows_19 : decode prog_11_method_17_code 19 = .ok (.aload_n 2, 1) := by decide +kernel
theorem d_T_joinRows_20 : decode prog_11_method_17_code 20 = .ok (.getfield 37, 3) := by decide +kernel
theorem d_T_joinRows_23 : decode prog_11_method_17_code 23 = .ok (.if_icmp .ge 30, 3) := by decide +kernel
theorem d_T_joinRows_53 : decode prog_11_method_17_code 53 = .ok (.iload 4, 2) := by decide +kernel
theorem d_T_joinRows_55 : decode prog_11_method_17_code 55 = .ok (.aload_n 2, 1) := by decide +kernel
theorem d_T_joinRows_56 : decode prog_11_method_17_code 56 = .ok (.getfield 37, 3) := by decide +kernel
theorem d_T_joinRows_59 : decode prog_11_method_17_code 59 = .ok (.if_icmp .ge 45, 3) := by decide +kernel
theorem d_T_joinRows_104 : decode prog_11_method_17_code 104 = .ok (.iinc 5 1, 3) := by decide +kernel
theorem d_T_joinRows_107 : decode prog_11_method_17_code 107 = .ok (.goto (-99), 3) := by decide +kernel
theorem d_T_joinRows_26 : decode prog_11_method_17_code 26 = .ok (.aload_n 0, 1) := by decide +kernel
theorem d_T_joinRows_27 : decode prog_11_method_17_code 27 = .ok (.aload_n 2, 1) := by decide +kernel
theorem d_T_joinRows_28 : decode prog_11_method_17_code 28 = .ok (.getfield 19, 3) := by decide +kernel
theorem d_T_joinRows_31 : decode prog_11_method_17_code 31 = .ok (.iload 4, 2) := by decide +kernel
theorem d_T_joinRows_33 : decode prog_11_method_17_code 33 = .ok (.aaload, 1) := by decide +kernel
theorem d_T_joinRows_34 : decode prog_11_method_17_code 34 = .ok (.aload_n 0, 1) := by decide +kernel
theorem d_T_joinRows_35 : decode prog_11_method_17_code 35 = .ok (.getfield 19, 3) := by decide +kernel
theorem d_T_joinRows_38 : decode prog_11_method_17_code 38 = .ok (.iload 5, 2) := by decide +kernel
theorem d_T_joinRows_40 : decode prog_11_method_17_code 40 = .ok (.aaload, 1) := by decide +kernel
theorem d_T_joinRows_41 : decode prog_11_method_17_code 41 = .ok (.invokevirtual 51, 3) := by decide +kernel
theorem d_T_joinRows_44 : decode prog_11_method_17_code 44 = .ok (.ifCond .ge 9, 3) := by decide +kernel
theorem d_T_joinRows_62 : decode prog_11_method_17_code 62 = .ok (.aload_n 0, 1) := by decide +kernel
theorem d_T_joinRows_63 : decode prog_11_method_17_code 63 = .ok (.aload_n 2, 1) := by decide +kernel
theorem d_T_joinRows_64 : decode prog_11_method_17_code 64 = .ok (.getfield 19, 3) := by decide +kernel
theorem d_T_joinRows_67 : decode prog_11_method_17_code 67 = .ok (.iload 4, 2) := by decide +kernel
theorem d_T_joinRows_69 : decode prog_11_method_17_code 69 = .ok (.aaload, 1) := by decide +kernel
theorem d_T_joinRows_70 : decode prog_11_method_17_code 70 = .ok (.aload_n 0, 1) := by decide +kernel
theorem d_T_joinRows_71 : decode prog_11_method_17_code 71 = .ok (.getfield 19, 3) := by decide +kernel
theorem d_T_joinRows_74 : decode prog_11_method_17_code 74 = .ok (.iload 5, 2) := by decide +kernel
theorem d_T_joinRows_76 : decode prog_11_method_17_code 76 = .ok (.aaload, 1) := by decide +kernel
theorem d_T_joinRows_77 : decode prog_11_method_17_code 77 = .ok (.invokevirtual 51, 3) := by decide +kernel
theorem d_T_joinRows_80 : decode prog_11_method_17_code 80 = .ok (.ifCond .ne 24, 3) := by decide +kernel
theorem d_T_joinRows_83 : decode prog_11_method_17_code 83 = .ok (.aload_n 0, 1) := by decide +kernel
theorem d_T_joinRows_84 : decode prog_11_method_17_code 84 = .ok (.iload 5, 2) := by decide +kernel
theorem d_T_joinRows_86 : decode prog_11_method_17_code 86 = .ok (.iload_n 3, 1) := by decide +kernel
theorem d_T_joinRows_87 : decode prog_11_method_17_code 87 = .ok (.invokevirtual 79, 3) := by decide +kernel
theorem d_T_joinRows_90 : decode prog_11_method_17_code 90 = .ok (.aload_n 0, 1) := by decide +kernel
theorem d_T_joinRows_91 : decode prog_11_method_17_code 91 = .ok (.iload_n 1, 1) := by decide +kernel
theorem d_T_joinRows_92 : decode prog_11_method_17_code 92 = .ok (.aload_n 0, 1) := by decide +kernel
theorem d_T_joinRows_93 : decode prog_11_method_17_code 93 = .ok (.iload_n 3, 1) := by decide +kernel
theorem d_T_joinRows_94 : decode prog_11_method_17_code 94 = .ok (.aload_n 2, 1) := by decide +kernel
theorem d_T_joinRows_95 : decode prog_11_method_17_code 95 = .ok (.iload 4, 2) := by decide +kernel
theorem d_T_joinRows_97 : decode prog_11_method_17_code 97 = .ok (.iload_n 3, 1) := by decide +kernel
theorem d_T_joinRows_98 : decode prog_11_method_17_code 98 = .ok (.invokevirtual 93, 3) := by decide +kernel
theorem d_T_joinRows_101 : decode prog_11_method_17_code 101 = .ok (.iinc 3 1, 3) := by decide +kernel
theorem d_T_joinRows_47 : decode prog_11_method_17_code 47 = .ok (.iinc 4 1, 3) := by decide +kernel
theorem d_T_joinRows_50 : decode prog_11_method_17_code 50 = .ok (.goto (-33), 3) := by decide +kernel
set_option maxHeartbeats 4000000 in
set_option maxRecDepth 100000 in
theorem v_TjoinRows (l : Launch) (D : va_G) (dA : Nat → ClassId) (sz : Nat) (ws : va_W) (ta : Nat → Nat) (t : TB) (tb : Nat → Nat) (u : TB) (sg : Int32) (NL : Nat → List Int32) (RS : Nat → List LB) (RU : Nat → List LB) (hop : isOp sg) (hcN : t.cN ≤ 65536) (hcM : u.cN ≤ 65536) (h1 : t.rc * t.wi ≤ t.cN) (h2 : t.rc ≤ 256) (hw : u.wi = t.wi) (h3 : u.rc * u.wi ≤ u.cN) (h4 : u.rc ≤ 256) (hnm : nmOk dA ws t.nm t.nc NL) (hnc : t.nc ≤ 6) (hra : rsAll dA ws t.rs) (hrs : rsOk dA ws t.rs t.rc RS) (hru : rsOk dA ws u.rs u.rc RU) : Met l ⟨"SeriesVault$Table", "joinRows", "(ILSeriesVault$Table;)V"⟩ [Cond.code ⟨"SeriesVault$Table", "joinRows", "(ILSeriesVault$Table;)V"⟩ prog_11_method_17_code 6 none] { frames := 4, cells := 0, slots := 0, locals := 84 } (pC D dA [.ref (ta 0), .int sg, .ref (tb 0)] (TbW dA ta t ++ (TbW dA tb u ++ (ws))) sz) (va_Qv (fun (u9 : TB) => u9 = TB.jm sg NL t u RS RU) (fun (u9 : TB) t9 => bW D (va_A (TbW dA ta t ++ (TbW dA tb u ++ (ws))) sz) (TbW dA ta u9 ++ (TbW dA tb u ++ (ws))) t9) (va_A (TbW dA ta t ++ (TbW dA tb u ++ (ws))) sz)) 0 0 (va_A (TbW dA ta t ++ (TbW dA tb u ++ (ws))) sz) := by
  refine mkC (y := ⟨"SeriesVault$Table", "joinRows", "(ILSeriesVault$Table;)V"⟩) (cc := prog_11_method_17_code) (maxL := 6) (av := [.ref (ta 0), .int sg, .ref (tb 0)]) (ws := TbW dA ta t ++ (TbW dA tb u ++ (ws))) (sz := sz) (Qc := fun A => va_Qv (fun (u9 : TB) => u9 = TB.jm sg NL t u RS RU) (fun (u9 : TB) t9 => bW D A (TbW dA ta u9 ++ (TbW dA tb u ++ (ws))) t9) A) (by decide) (Nat.le_of_ble_eq_true rfl) ?_
  intro A p e s m below meth c ls hsz hB
  obtain ⟨hx, hb, hr, hml, hown, hin, hlk, hE, hK, hP, hD, hS, hA, hN, hl⟩ := hB
  have hown : s.vm.findClass "SeriesVault$Table" = some m.cls := hown
  have hl : lv_has ls 6 [(0, .ref (ta 0)), (1, .int sg), (2, .ref (tb 0))] := hl
  obtain ⟨H, hH⟩ : ∃ z, z = s.heap := ⟨_, rfl⟩
  have hP : va_P D vwCl (TbW dA ta t ++ (TbW dA tb u ++ (ws))) H := by rw [hH]; exact hP
  have hS : va_S A s.heap H [] := by rw [hH]; exact hS
  rw [← hH]
  refine lv_iconst (v := 0) hx hb d_T_joinRows_0 (by decide) ?_
  refine lv_istore_n hx hb d_T_joinRows_1 rfl hl (by decide) rfl (fun ls hl => ?_)
  have hl : lv_has ls 6 [(3, .int 0), (0, .ref (ta 0)), (1, .int sg), (2, .ref (tb 0))] := hl
  refine lv_iconst (v := 0) hx hb d_T_joinRows_2 (by decide) ?_
  refine lv_istore hx hb d_T_joinRows_3 hl (by decide) rfl (fun ls hl => ?_)
  have hl : lv_has ls 6 [(4, .int 0), (3, .int 0), (0, .ref (ta 0)), (1, .int sg), (2, .ref (tb 0))] := hl
  refine lv_iconst (v := 0) hx hb d_T_joinRows_5 (by decide) ?_
  refine lv_istore hx hb d_T_joinRows_6 hl (by decide) rfl (fun ls hl => ?_)
  have hl : lv_has ls 6 [(5, .int 0), (4, .int 0), (3, .int 0), (0, .ref (ta 0)), (1, .int sg), (2, .ref (tb 0))] := hl
  have L8 : ∀ (k9 : Nat) (n : Nat) (o0 : Nat) (i : Nat) (z : TB) (i1 : i ≤ t.rc) (ez : jmG sg NL t u RS RU i = (n, o0, z)) (ik : jmK t i n z) (ia : rsAll dA ws z.rs) (io : o0 ≤ u.rc) (hk9 : t.rc - i = k9), ∀ (H : Heap) (locs : List Loc) (ls : Array Slot) (hP : va_P D vwCl (TbW dA ta z ++ (TbW dA tb u ++ (ws))) H) (hD : va_D A (TbW dA ta z ++ (TbW dA tb u ++ (ws)))) (hS : va_S A s.heap H locs) (hl : lv_has ls 6 [(0, .ref (ta 0)), (1, .int sg), (2, .ref (tb 0)), (3, .int (nI n)), (4, .int (nI o0)), (5, .int (nI i))]), W p l e ({ frames := 4, cells := 0, slots := 0, locals := 84 } : Room) s m ([.ref (ta 0), .int sg, .ref (tb 0)] : List Value).toArray below meth c H locs 0 0 (MQ below (va_Qv (fun (u9 : TB) => u9 = TB.jm sg NL t u RS RU) (fun (u9 : TB) t9 => bW D A (TbW dA ta u9 ++ (TbW dA tb u ++ (ws))) t9) A) ([.ref (ta 0), .int sg, .ref (tb 0)] : List Value).toArray s 0 0 A) (F0 m 8 ls []) := by
    intro k9
    induction k9 using Nat.strongRecOn with
    | ind k9 ih8 =>
      intro n o0 i z i1 ez ik ia io hk9 H locs ls hP hD hS hl
      have ikc := ik
      obtain ⟨k1, k2, k3, k4, k5, k6, k7, k8⟩ := ikc
      have k2 : z.rc = t.rc := k2
      have k3 : z.cN = t.cN := k3
      refine lv_iload hx hb d_T_joinRows_8 (lv_at hl 5 rfl) ?_
      refine lv_aload_n hx hb d_T_joinRows_10 rfl (lv_at hl 0 rfl) ?_
      refine gF (v := .int (nI z.rc)) hx hb hown hE hK hP 0 rfl rfl layT 3 (by decide) w1368 rfl d_T_joinRows_11 ?_
      refine lv_icmp_ge hx hb d_T_joinRows_14 (tgt := 110) rfl (fun g1 => ?_) (fun g1 => ?_)
      · have g1 := (nI_leI (a := z.rc) (b := i) (by omega) (by omega)).mp g1
        refine lv_aload_n hx hb d_T_joinRows_110 rfl (lv_at hl 0 rfl) ?_
        refine lv_iload_n hx hb d_T_joinRows_111 rfl (lv_at hl 3 rfl) ?_
        refine pF (v := .int (nI n)) hx hb hown hE hK hP hD hS 0 rfl rfl layT tyT tokT nmT 3 (by decide) w1368 rfl rfl rfl (Nat.le_of_ble_eq_true rfl) d_T_joinRows_112 (fun H locs hP hD hS => ?_)
        have hP : va_P D vwCl (TbW dA ta (TB.s_rc z n) ++ (TbW dA tb u ++ (ws))) H := hP
        have hD : va_D A (TbW dA ta (TB.s_rc z n) ++ (TbW dA tb u ++ (ws))) := hD
        refine lv_aload_n hx hb d_T_joinRows_115 rfl (lv_at hl 0 rfl) ?_
        refine jkV (wr := []) (rnV (As := []) (rest := []) hx hb hml hown hE hK (hN _ _ hS) hP hD (v_TdropEmptyRows l D dA H.size (TbW dA tb u ++ (ws)) ta (TB.s_rc z n) (show z.cN ≤ 65536 by omega) (rsAll_m (fun _ hm => (List.mem_append_right _ hm)) ia) (by show n * z.wi ≤ z.cN; rw [k1, k3]; exact Nat.le_trans (Nat.mul_le_mul_right _ (show n ≤ t.rc by omega)) h1) (show n ≤ 256 by omega)) (q0 := 0) rfl rfl w1437 w1436 w1438 w1439 w807 rfl rfl ⟨⟨by decide, by decide⟩, rfl⟩ ⟨(Nat.le_of_ble_eq_true rfl), (Nat.le_of_ble_eq_true rfl)⟩ rfl hl.1 rfl (Nat.le_of_ble_eq_true rfl) d_T_joinRows_116 ⟨(Nat.le_of_ble_eq_true rfl), (Nat.le_of_ble_eq_true rfl)⟩) hP hD hS hA (fun u3 H locs hp9 hP hD hS => ?_)
        obtain ⟨y4, h9u⟩ : ∃ z9, z9 = u3 := ⟨_, rfl⟩
        subst h9u
        have hP : va_P D vwCl (TbW dA ta y4 ++ (TbW dA tb u ++ (ws))) H := hP
        have hD : va_D A (TbW dA ta y4 ++ (TbW dA tb u ++ (ws))) := hD
        have f_e_5 := hp9
        exact rfV hx hb hr hlk hS y4 (by rw [f_e_5]; unfold TB.jm; rw [← show i = t.rc by omega, ez]) hP hD (Nat.le_of_ble_eq_true rfl) (Nat.le_of_ble_eq_true rfl) d_T_joinRows_119
      · have g1 := mt (nI_leI (a := z.rc) (b := i) (by omega) (by omega)).mpr g1
        have L17 : ∀ (k9 : Nat) (o : Nat) (i2 : o ≤ u.rc) (i3 : jmO (ltT NL t.nc RU (RS i)) u.rc (u.rc - o) o = jmQ NL t.nc u RU (RS i) o0) (hk9 : u.rc - o = k9), ∀ (H : Heap) (locs : List Loc) (ls : Array Slot) (hP : va_P D vwCl (TbW dA ta z ++ (TbW dA tb u ++ (ws))) H) (hD : va_D A (TbW dA ta z ++ (TbW dA tb u ++ (ws)))) (hS : va_S A s.heap H locs) (hl : lv_has ls 6 [(0, .ref (ta 0)), (1, .int sg), (2, .ref (tb 0)), (3, .int (nI n)), (5, .int (nI i)), (4, .int (nI o))]), W p l e ({ frames := 4, cells := 0, slots := 0, locals := 84 } : Room) s m ([.ref (ta 0), .int sg, .ref (tb 0)] : List Value).toArray below meth c H locs 0 0 (MQ below (va_Qv (fun (u9 : TB) => u9 = TB.jm sg NL t u RS RU) (fun (u9 : TB) t9 => bW D A (TbW dA ta u9 ++ (TbW dA tb u ++ (ws))) t9) A) ([.ref (ta 0), .int sg, .ref (tb 0)] : List Value).toArray s 0 0 A) (F0 m 17 ls []) := by
          intro k9
          induction k9 using Nat.strongRecOn with
          | ind k9 ih17 =>
            intro o i2 i3 hk9 H locs ls hP hD hS hl
            refine lv_iload hx hb d_T_joinRows_17 (lv_at hl 5 rfl) ?_
            refine lv_aload_n hx hb d_T_joinRows_19 rfl (lv_at hl 2 rfl) ?_
            refine gF (v := .int (nI u.rc)) hx hb hown hE hK hP 5 rfl rfl layT 3 (by decide) w1368 rfl d_T_joinRows_20 ?_
            refine lv_icmp_ge hx hb d_T_joinRows_23 (tgt := 53) rfl (fun g6 => ?_) (fun g6 => ?_)
            · have g6 := (nI_leI (a := u.rc) (b := o) (by omega) (by omega)).mp g6
              have eo : jmQ NL t.nc u RU (RS i) o0 = o := by rw [← i3]; exact jmO_z g6
              refine lv_iload hx hb d_T_joinRows_53 (lv_at hl 5 rfl) ?_
              refine lv_aload_n hx hb d_T_joinRows_55 rfl (lv_at hl 2 rfl) ?_
              refine gF (v := .int (nI u.rc)) hx hb hown hE hK hP 5 rfl rfl layT 3 (by decide) w1368 rfl d_T_joinRows_56 ?_
              refine lv_icmp_ge hx hb d_T_joinRows_59 (tgt := 104) rfl (fun _ => ?_) (fun h9 => absurd ((nI_leI (a := u.rc) (b := o) (by omega) (by omega)).mpr g6) h9)
              refine lv_iinc (k := 4) (v := nI (i + 1)) hx hb d_T_joinRows_104 hl rfl (iincN (i) 1 1 (by decide)) (by decide) rfl (fun ls hl => ?_)
              have hl : lv_has ls 6 [(5, .int (nI (i + 1))), (0, .ref (ta 0)), (1, .int sg), (2, .ref (tb 0)), (3, .int (nI n)), (4, .int (nI o))] := hl
              refine lv_goto hx hb d_T_joinRows_107 (tgt := 8) rfl ?_
              exact ih8 _ (by omega) n o (i + 1) z (by omega) (by show jmS _ _ _ _ _ _ _ _ _ _ = _; rw [ez]; exact jmS_n1 eo g6) (jmK_n ik) ia (by omega) rfl H _ ls hP hD hS (lv_sub hl [1, 2, 3, 4, 5, 0] rfl)
            · have g6 := mt (nI_leI (a := u.rc) (b := o) (by omega) (by omega)).mpr g6
              refine lv_aload_n hx hb d_T_joinRows_26 rfl (lv_at hl 0 rfl) ?_
              refine lv_aload_n hx hb d_T_joinRows_27 rfl (lv_at hl 2 rfl) ?_
              obtain ⟨a1, er1, hs1, ho1⟩ := hrs i (by omega)
              obtain ⟨a2, er2, hs2, ho2⟩ := hru o (by omega)
              have er1 : z.rs i = some a1 := (k8 i (Nat.le_refl _)).trans er1
              refine gF (v := .ref (tb 2)) hx hb hown hE hK hP 5 rfl rfl layT 4 (by decide) w787 rfl d_T_joinRows_28 ?_
              refine lv_iload hx hb d_T_joinRows_31 (lv_at hl 5 rfl) ?_
              refine nqld (f := u.rs) (n := 256) hx hb hK hP (7) 5 rfl rfl (o) (by omega) (by decide) er2 d_T_joinRows_33 ?_
              refine lv_aload_n hx hb d_T_joinRows_34 rfl (lv_at hl 0 rfl) ?_
              refine gF (v := .ref (ta 2)) hx hb hown hE hK hP 0 rfl rfl layT 4 (by decide) w787 rfl d_T_joinRows_35 ?_
              refine lv_iload hx hb d_T_joinRows_38 (lv_at hl 4 rfl) ?_
              refine nqld (f := z.rs) (n := 256) hx hb hK hP (2) 5 rfl rfl (i) (by omega) (by decide) er1 d_T_joinRows_40 ?_
              refine jkI (wr := []) (rnV (As := [.ref a2, .ref a1]) (rest := []) hx hb hml hown hE hK (hN _ _ hS) hP hD (v_TcompareTexts l D dA H.size (TbW dA tb u ++ (ws)) ta z NL a2 (RU o) a1 (RS i) (by rw [k5, k6]; exact nmOk_m (fun _ hm => (List.mem_append_right _ hm)) hnm) (by rw [k6]; exact hnc) (isSer_m (fun _ hm => (List.mem_append_right _ hm)) hs2) ho2 (isSer_m (fun _ hm => (List.mem_append_right _ hm)) hs1) ho1) (q0 := 0) rfl rfl w1421 w1420 w1422 w1423 w807 rfl rfl ⟨⟨by decide, by decide⟩, rfl⟩ ⟨(Nat.le_of_ble_eq_true rfl), (Nat.le_of_ble_eq_true rfl)⟩ rfl hl.1 rfl (Nat.le_of_ble_eq_true rfl) d_T_joinRows_41 ⟨(Nat.le_of_ble_eq_true rfl), (Nat.le_of_ble_eq_true rfl)⟩) hP hD hS hA (fun r7 u8 H locs hp9 hP hD hS => ?_)
              have hP : va_P D vwCl (TbW dA ta z ++ (TbW dA tb u ++ (ws))) H := hP
              have hD : va_D A (TbW dA ta z ++ (TbW dA tb u ++ (ws))) := hD
              replace hp9 : cmT NL z.nc (RU o) (RS i) = r7 := Eq.symm hp9
              subst hp9
              refine tpi (y := cmT NL t.nc (RU o) (RS i)) (by rw [k6]) ?_
              refine lv_if_ge hx hb d_T_joinRows_44 (tgt := 53) rfl (fun g9 => ?_) (fun g9 => ?_)
              · have g9 := g9
                have eo : jmQ NL t.nc u RU (RS i) o0 = o := by rw [← i3]; exact jmO_n (show ltT NL t.nc RU (RS i) o = false by unfold ltT; rw [decide_eq_true (show 0 ≤ cmT NL t.nc (RU o) (RS i) from g9)]; rfl)
                refine lv_iload hx hb d_T_joinRows_53 (lv_at hl 5 rfl) ?_
                refine lv_aload_n hx hb d_T_joinRows_55 rfl (lv_at hl 2 rfl) ?_
                refine gF (v := .int (nI u.rc)) hx hb hown hE hK hP 5 rfl rfl layT 3 (by decide) w1368 rfl d_T_joinRows_56 ?_
                refine lv_icmp_ge hx hb d_T_joinRows_59 (tgt := 104) rfl (fun h9 => absurd h9 (mt (nI_leI (a := u.rc) (b := o) (by omega) (by omega)).mp g6)) (fun _ => ?_)
                refine lv_aload_n hx hb d_T_joinRows_62 rfl (lv_at hl 0 rfl) ?_
                refine lv_aload_n hx hb d_T_joinRows_63 rfl (lv_at hl 2 rfl) ?_
                obtain ⟨a1, er1, hs1, ho1⟩ := hrs i (by omega)
                obtain ⟨a2, er2, hs2, ho2⟩ := hru o (by omega)
                have er1 : z.rs i = some a1 := (k8 i (Nat.le_refl _)).trans er1
                refine gF (v := .ref (tb 2)) hx hb hown hE hK hP 5 rfl rfl layT 4 (by decide) w787 rfl d_T_joinRows_64 ?_
                refine lv_iload hx hb d_T_joinRows_67 (lv_at hl 5 rfl) ?_
                refine nqld (f := u.rs) (n := 256) hx hb hK hP (7) 5 rfl rfl (o) (by omega) (by decide) er2 d_T_joinRows_69 ?_
                refine lv_aload_n hx hb d_T_joinRows_70 rfl (lv_at hl 0 rfl) ?_
                refine gF (v := .ref (ta 2)) hx hb hown hE hK hP 0 rfl rfl layT 4 (by decide) w787 rfl d_T_joinRows_71 ?_
                refine lv_iload hx hb d_T_joinRows_74 (lv_at hl 4 rfl) ?_
                refine nqld (f := z.rs) (n := 256) hx hb hK hP (2) 5 rfl rfl (i) (by omega) (by decide) er1 d_T_joinRows_76 ?_
                refine jkI (wr := []) (rnV (As := [.ref a2, .ref a1]) (rest := []) hx hb hml hown hE hK (hN _ _ hS) hP hD (v_TcompareTexts l D dA H.size (TbW dA tb u ++ (ws)) ta z NL a2 (RU o) a1 (RS i) (by rw [k5, k6]; exact nmOk_m (fun _ hm => (List.mem_append_right _ hm)) hnm) (by rw [k6]; exact hnc) (isSer_m (fun _ hm => (List.mem_append_right _ hm)) hs2) ho2 (isSer_m (fun _ hm => (List.mem_append_right _ hm)) hs1) ho1) (q0 := 0) rfl rfl w1421 w1420 w1422 w1423 w807 rfl rfl ⟨⟨by decide, by decide⟩, rfl⟩ ⟨(Nat.le_of_ble_eq_true rfl), (Nat.le_of_ble_eq_true rfl)⟩ rfl hl.1 rfl (Nat.le_of_ble_eq_true rfl) d_T_joinRows_77 ⟨(Nat.le_of_ble_eq_true rfl), (Nat.le_of_ble_eq_true rfl)⟩) hP hD hS hA (fun r10 u11 H locs hp9 hP hD hS => ?_)
                have hP : va_P D vwCl (TbW dA ta z ++ (TbW dA tb u ++ (ws))) H := hP
                have hD : va_D A (TbW dA ta z ++ (TbW dA tb u ++ (ws))) := hD
                replace hp9 : cmT NL z.nc (RU o) (RS i) = r10 := Eq.symm hp9
                subst hp9
                refine tpi (y := cmT NL t.nc (RU o) (RS i)) (by rw [k6]) ?_
                refine lv_if_ne hx hb d_T_joinRows_80 (tgt := 104) rfl (fun g12 => ?_) (fun g12 => ?_)
                · have g12 := g12
                  refine lv_iinc (k := 4) (v := nI (i + 1)) hx hb d_T_joinRows_104 hl rfl (iincN (i) 1 1 (by decide)) (by decide) rfl (fun ls hl => ?_)
                  have hl : lv_has ls 6 [(5, .int (nI (i + 1))), (0, .ref (ta 0)), (1, .int sg), (2, .ref (tb 0)), (3, .int (nI n)), (4, .int (nI o))] := hl
                  refine lv_goto hx hb d_T_joinRows_107 (tgt := 8) rfl ?_
                  exact ih8 _ (by omega) n o (i + 1) z (by omega) (by show jmS _ _ _ _ _ _ _ _ _ _ = _; rw [ez]; exact jmS_n2 eo g12) (jmK_n ik) ia (by omega) rfl H _ ls hP hD hS (lv_sub hl [1, 2, 3, 4, 5, 0] rfl)
                · have g12 := g12
                  refine lv_aload_n hx hb d_T_joinRows_83 rfl (lv_at hl 0 rfl) ?_
                  refine lv_iload hx hb d_T_joinRows_84 (lv_at hl 4 rfl) ?_
                  refine lv_iload_n hx hb d_T_joinRows_86 rfl (lv_at hl 3 rfl) ?_
                  refine jkV (wr := []) (rnV (As := [.int (nI i), .int (nI n)]) (rest := []) hx hb hml hown hE hK (hN _ _ hS) hP hD (v_TmoveRow l D dA H.size (TbW dA tb u ++ (ws)) ta z i n (show z.cN ≤ 65536 by omega) (rsAll_m (fun _ hm => (List.mem_append_right _ hm)) ia) (show i < 256 from by omega) (show n < 256 from by omega) (by rw [k1, k3]; exact mul_le_of (show i < t.rc by omega) h1) (by rw [k1, k3]; exact mul_le_of (show n < t.rc by omega) h1)) (q0 := 0) rfl rfl w1409 w1408 w1410 w1411 w807 rfl rfl ⟨⟨by decide, by decide⟩, rfl⟩ ⟨(Nat.le_of_ble_eq_true rfl), (Nat.le_of_ble_eq_true rfl)⟩ rfl hl.1 rfl (Nat.le_of_ble_eq_true rfl) d_T_joinRows_87 ⟨(Nat.le_of_ble_eq_true rfl), (Nat.le_of_ble_eq_true rfl)⟩) hP hD hS hA (fun u14 H locs hp9 hP hD hS => ?_)
                  have hP : va_P D vwCl (TbW dA ta (TB.s_ce (TB.s_th (TB.s_rs z (va_up z.rs n (z.rs i))) (va_up z.th n (z.th i))) (va_cpy z.ce z.ce (i * z.wi) (n * z.wi) z.wi)) ++ (TbW dA tb u ++ (ws))) H := hP
                  have hD : va_D A (TbW dA ta (TB.s_ce (TB.s_th (TB.s_rs z (va_up z.rs n (z.rs i))) (va_up z.th n (z.th i))) (va_cpy z.ce z.ce (i * z.wi) (n * z.wi) z.wi)) ++ (TbW dA tb u ++ (ws))) := hD
                  refine lv_aload_n hx hb d_T_joinRows_90 rfl (lv_at hl 0 rfl) ?_
                  refine lv_iload_n hx hb d_T_joinRows_91 rfl (lv_at hl 1 rfl) ?_
                  refine lv_aload_n hx hb d_T_joinRows_92 rfl (lv_at hl 0 rfl) ?_
                  refine lv_iload_n hx hb d_T_joinRows_93 rfl (lv_at hl 3 rfl) ?_
                  refine lv_aload_n hx hb d_T_joinRows_94 rfl (lv_at hl 2 rfl) ?_
                  refine lv_iload hx hb d_T_joinRows_95 (lv_at hl 5 rfl) ?_
                  refine lv_iload_n hx hb d_T_joinRows_97 rfl (lv_at hl 3 rfl) ?_
                  refine jkV (wr := []) (rnV (As := [.int sg, .ref (ta 0), .int (nI n), .ref (tb 0), .int (nI o), .int (nI n)]) (rest := []) hx hb hml hown hE hK (hN _ _ hS) hP hD (v_TjoinRow_l l D dA H.size ws ta (TB.s_ce (TB.s_th (TB.s_rs z (va_up z.rs n (z.rs i))) (va_up z.th n (z.th i))) (va_cpy z.ce z.ce (i * z.wi) (n * z.wi) z.wi)) tb u sg n o n hop (show z.cN ≤ 65536 by omega) hcM (show n < 256 from by omega) (show o < 256 from by omega) (show n < 256 from by omega) (by rw [k1, k3]; exact mul_le_of (show n < t.rc by omega) h1) (by rw [k1, k3]; exact mul_le_of (show n < t.rc by omega) h1) (by rw [k1, ← hw]; exact mul_le_of (show o < u.rc by omega) h3) (Nat.le_refl _)) (q0 := 0) rfl rfl w1441 w1440 w1442 w1443 w807 rfl rfl ⟨⟨by decide, by decide⟩, rfl⟩ ⟨(Nat.le_of_ble_eq_true rfl), (Nat.le_of_ble_eq_true rfl)⟩ rfl hl.1 rfl (Nat.le_of_ble_eq_true rfl) d_T_joinRows_98 ⟨(Nat.le_of_ble_eq_true rfl), (Nat.le_of_ble_eq_true rfl)⟩) hP hD hS hA (fun u16 H locs hp9 hP hD hS => ?_)
                  have hP : va_P D vwCl (TbW dA ta (TB.s_ce (TB.s_th (TB.s_rs z (va_up z.rs n (z.rs i))) (va_up (va_up z.th n (z.th i)) n (jrW sg (((va_up z.th n (z.th i)) n) &&& (u.th o)) (fun w => (va_cpy z.ce z.ce (i * z.wi) (n * z.wi) z.wi) (n * z.wi + w)) (fun w => u.ce (o * u.wi + w)) (va_cpy z.ce z.ce (i * z.wi) (n * z.wi) z.wi) (n * z.wi) z.wi).1)) ((jrW sg (((va_up z.th n (z.th i)) n) &&& (u.th o)) (fun w => (va_cpy z.ce z.ce (i * z.wi) (n * z.wi) z.wi) (n * z.wi + w)) (fun w => u.ce (o * u.wi + w)) (va_cpy z.ce z.ce (i * z.wi) (n * z.wi) z.wi) (n * z.wi) z.wi).2)) ++ (TbW dA tb u ++ (ws))) H := hP
                  have hD : va_D A (TbW dA ta (TB.s_ce (TB.s_th (TB.s_rs z (va_up z.rs n (z.rs i))) (va_up (va_up z.th n (z.th i)) n (jrW sg (((va_up z.th n (z.th i)) n) &&& (u.th o)) (fun w => (va_cpy z.ce z.ce (i * z.wi) (n * z.wi) z.wi) (n * z.wi + w)) (fun w => u.ce (o * u.wi + w)) (va_cpy z.ce z.ce (i * z.wi) (n * z.wi) z.wi) (n * z.wi) z.wi).1)) ((jrW sg (((va_up z.th n (z.th i)) n) &&& (u.th o)) (fun w => (va_cpy z.ce z.ce (i * z.wi) (n * z.wi) z.wi) (n * z.wi + w)) (fun w => u.ce (o * u.wi + w)) (va_cpy z.ce z.ce (i * z.wi) (n * z.wi) z.wi) (n * z.wi) z.wi).2)) ++ (TbW dA tb u ++ (ws))) := hD
                  refine lv_iinc (k := 3) (v := nI (n + 1)) hx hb d_T_joinRows_101 hl rfl (iincN (n) 1 1 (by decide)) (by decide) rfl (fun ls hl => ?_)
                  have hl : lv_has ls 6 [(3, .int (nI (n + 1))), (0, .ref (ta 0)), (1, .int sg), (2, .ref (tb 0)), (5, .int (nI i)), (4, .int (nI o))] := hl
                  refine lv_iinc (k := 4) (v := nI (i + 1)) hx hb d_T_joinRows_104 hl rfl (iincN (i) 1 1 (by decide)) (by decide) rfl (fun ls hl => ?_)
                  have hl : lv_has ls 6 [(5, .int (nI (i + 1))), (3, .int (nI (n + 1))), (0, .ref (ta 0)), (1, .int sg), (2, .ref (tb 0)), (4, .int (nI o))] := hl
                  refine lv_goto hx hb d_T_joinRows_107 (tgt := 8) rfl ?_
                  exact ih8 _ (by omega) (n + 1) o (i + 1) (TB.s_ce (TB.s_th (TB.s_rs z (va_up z.rs n (z.rs i))) (va_up (va_up z.th n (z.th i)) n (jrW sg (((va_up z.th n (z.th i)) n) &&& (u.th o)) (fun w => (va_cpy z.ce z.ce (i * z.wi) (n * z.wi) z.wi) (n * z.wi + w)) (fun w => u.ce (o * u.wi + w)) (va_cpy z.ce z.ce (i * z.wi) (n * z.wi) z.wi) (n * z.wi) z.wi).1)) ((jrW sg (((va_up z.th n (z.th i)) n) &&& (u.th o)) (fun w => (va_cpy z.ce z.ce (i * z.wi) (n * z.wi) z.wi) (n * z.wi + w)) (fun w => u.ce (o * u.wi + w)) (va_cpy z.ce z.ce (i * z.wi) (n * z.wi) z.wi) (n * z.wi) z.wi).2)) (by omega) (by show jmS _ _ _ _ _ _ _ _ _ _ = _; rw [ez]; exact jmS_y eo (Nat.not_le.mp g6) g12) (jmK_y ik) (rsAll_mv ia) (by omega) rfl H _ ls hP hD hS (lv_sub hl [2, 3, 4, 1, 5, 0] rfl)
              · have g9 := g9
                refine lv_iinc (k := 5) (v := nI (o + 1)) hx hb d_T_joinRows_47 hl rfl (iincN (o) 1 1 (by decide)) (by decide) rfl (fun ls hl => ?_)
                have hl : lv_has ls 6 [(4, .int (nI (o + 1))), (0, .ref (ta 0)), (1, .int sg), (2, .ref (tb 0)), (3, .int (nI n)), (5, .int (nI i))] := hl
                refine lv_goto hx hb d_T_joinRows_50 (tgt := 17) rfl ?_
                exact ih17 _ (by omega) (o + 1) (by omega) (by rw [← i3, jmO_y (by omega) (show ltT NL t.nc RU (RS i) o = true by unfold ltT; rw [decide_eq_false (show ¬ 0 ≤ cmT NL t.nc (RU o) (RS i) from k6 ▸ g9)]; rfl)]) rfl H _ ls hP hD hS (lv_sub hl [1, 2, 3, 4, 5, 0] rfl)
        exact L17 _ o0 io rfl rfl H _ ls hP hD hS (lv_sub hl [0, 1, 2, 3, 5, 4] rfl)
  exact L8 _ 0 0 0 t (Nat.zero_le _) rfl ⟨rfl, rfl, rfl, Nat.le_refl _, rfl, rfl, rfl, fun _ _ => rfl⟩ hra (Nat.zero_le _) rfl H _ ls hP hD hS (lv_sub hl [3, 4, 5, 2, 1, 0] rfl)
end
section
/-! Lists. -/
abbrev LI : Type := Nat × Int32 × Nat × Nat × (Nat → Option Nat)
abbrev LI.sz (x : LI) : Nat := x.1
abbrev LI.s_sz (x : LI) (v : Nat) : LI := (v, x.2)
abbrev LI.mc (x : LI) : Int32 := x.2.1
abbrev LI.s_mc (x : LI) (v : Int32) : LI := (x.1, v, x.2.2)
abbrev LI.eA (x : LI) : Nat := x.2.2.1
abbrev LI.s_eA (x : LI) (v : Nat) : LI := (x.1, x.2.1, v, x.2.2.2)
abbrev LI.eN (x : LI) : Nat := x.2.2.2.1
abbrev LI.s_eN (x : LI) (v : Nat) : LI := (x.1, x.2.1, x.2.2.1, v, x.2.2.2.2)
abbrev LI.el (x : LI) : Nat → Option Nat := x.2.2.2.2
abbrev LI.s_el (x : LI) (v : Nat → Option Nat) : LI := (x.1, x.2.1, x.2.2.1, x.2.2.2.1, v)
def LiWf (dA : Nat → ClassId) (la : Nat → Nat) (x y : LI) : va_W := [(la 0, .inr (6, [.ref y.eA, .int (nI x.sz), .int x.mc])), (x.eA, .inl (dA 7, x.eN, .inr (.inr (.inr (.inr x.el)))))]
def LiW (dA : Nat → ClassId) (la : Nat → Nat) (x : LI) : va_W := LiWf dA la x x
def clF (f : Nat → Option Nat) (n : Nat) : Nat → Option Nat := fun q => if q < n then none else f q
theorem clF_0 (f : Nat → Option Nat) : clF f 0 = f := by
  funext q; unfold clF; rw [if_neg (Nat.not_lt_zero q)]
theorem clF_s (f : Nat → Option Nat) (i : Nat) : va_up (clF f i) i none = clF f (i + 1) := by
  funext q; unfold va_up clF
  by_cases h : q = i
  · rw [if_pos h, if_pos (by omega)]
  · rw [if_neg h]
    by_cases h2 : q < i
    · rw [if_pos h2, if_pos (by omega)]
    · rw [if_neg h2, if_neg (by omega)]
theorem d_Preconditions_checkIndex_0 : decode prog_45_method_11_code 0 = .ok (.iload_n 0, 1) := by decide +kernel
theorem d_Preconditions_checkIndex_1 : decode prog_45_method_11_code 1 = .ok (.ifCond .lt 8, 3) := by decide +kernel
theorem d_Preconditions_checkIndex_4 : decode prog_45_method_11_code 4 = .ok (.iload_n 0, 1) := by decide +kernel
theorem d_Preconditions_checkIndex_5 : decode prog_45_method_11_code 5 = .ok (.iload_n 1, 1) := by decide +kernel
theorem d_Preconditions_checkIndex_6 : decode prog_45_method_11_code 6 = .ok (.if_icmp .lt 10, 3) := by decide +kernel
theorem d_Preconditions_checkIndex_16 : decode prog_45_method_11_code 16 = .ok (.iload_n 0, 1) := by decide +kernel
theorem d_Preconditions_checkIndex_17 : decode prog_45_method_11_code 17 = .ok (.ireturn, 1) := by decide +kernel
set_option maxHeartbeats 4000000 in
set_option maxRecDepth 100000 in
theorem v_preIndex (l : Launch) (D : va_G) (dA : Nat → ClassId) (sz : Nat) (a : Nat) (n : Nat) (h1 : a < n) (h2 : n ≤ 65536) : Met l ⟨"jdk/internal/util/Preconditions", "checkIndex", "(IILjava/util/function/BiFunction;)I"⟩ [Cond.code ⟨"jdk/internal/util/Preconditions", "checkIndex", "(IILjava/util/function/BiFunction;)I"⟩ prog_45_method_11_code 3 (some FieldType.int)] { frames := 1, cells := 0, slots := 0, locals := 0 } (pC D dA [.int (nI a), .int (nI n), .null] ([]) sz) (va_Qi (fun (r9 : Int32) (u9 : Unit) => r9 = nI a) (fun (u9 : Unit) t9 => bW D (va_A ([]) sz) ([]) t9) (va_A ([]) sz)) 0 0 (va_A ([]) sz) := by
  refine mkC (y := ⟨"jdk/internal/util/Preconditions", "checkIndex", "(IILjava/util/function/BiFunction;)I"⟩) (cc := prog_45_method_11_code) (maxL := 3) (av := [.int (nI a), .int (nI n), .null]) (ws := []) (sz := sz) (Qc := fun A => va_Qi (fun (r9 : Int32) (u9 : Unit) => r9 = nI a) (fun (u9 : Unit) t9 => bW D A ([]) t9) A) (by decide) (Nat.le_of_ble_eq_true rfl) ?_
  intro A p e s m below meth c ls hsz hB
  obtain ⟨hx, hb, hr, hml, hown, hin, hlk, hE, hK, hP, hD, hS, hA, hN, hl⟩ := hB
  have hown : s.vm.findClass "jdk/internal/util/Preconditions" = some m.cls := hown
  have hl : lv_has ls 3 [(0, .int (nI a)), (1, .int (nI n)), (2, .null)] := hl
  obtain ⟨H, hH⟩ : ∃ z, z = s.heap := ⟨_, rfl⟩
  have hP : va_P D vwCl ([]) H := by rw [hH]; exact hP
  have hS : va_S A s.heap H [] := by rw [hH]; exact hS
  rw [← hH]
  refine lv_iload_n hx hb d_Preconditions_checkIndex_0 rfl (lv_at hl 0 rfl) ?_
  refine lv_if_lt hx hb d_Preconditions_checkIndex_1 (tgt := 9) rfl (fun h9 => absurd h9 (nI_pos (n := a) (by omega))) (fun _ => ?_)
  refine lv_iload_n hx hb d_Preconditions_checkIndex_4 rfl (lv_at hl 0 rfl) ?_
  refine lv_iload_n hx hb d_Preconditions_checkIndex_5 rfl (lv_at hl 1 rfl) ?_
  refine lv_icmp_lt hx hb d_Preconditions_checkIndex_6 (tgt := 16) rfl (fun _ => ?_) (fun h9 => absurd ((nI_ltI (a := a) (b := n) (by omega) (by omega)).mpr h1) h9)
  refine lv_iload_n hx hb d_Preconditions_checkIndex_16 rfl (lv_at hl 0 rfl) ?_
  exact rfI hx hb hr hlk hS () rfl hP hD (Nat.le_of_ble_eq_true rfl) (Nat.le_of_ble_eq_true rfl) d_Preconditions_checkIndex_17
theorem d_Objects_checkIndex_0 : decode prog_41_method_17_code 0 = .ok (.iload_n 0, 1) := by decide +kernel
theorem d_Objects_checkIndex_1 : decode prog_41_method_17_code 1 = .ok (.iload_n 1, 1) := by decide +kernel
theorem d_Objects_checkIndex_2 : decode prog_41_method_17_code 2 = .ok (.aconst_null, 1) := by decide +kernel
theorem d_Objects_checkIndex_3 : decode prog_41_method_17_code 3 = .ok (.invokestatic 105, 3) := by decide +kernel
theorem d_Objects_checkIndex_6 : decode prog_41_method_17_code 6 = .ok (.ireturn, 1) := by decide +kernel
theorem w1444 : Cond.methodLink "java/util/Objects" 105 ⟨"jdk/internal/util/Preconditions", "checkIndex", "(IILjava/util/function/BiFunction;)I"⟩ ∈ aW := aw_of (tb_3 (List.mem_of_getElem? (i := 39) rfl)) rfl
theorem w1445 : Cond.initialized "jdk/internal/util/Preconditions" ∈ aW := aw_of (tb_1 (List.mem_of_getElem? (i := 29) rfl)) rfl
theorem w1446 : Cond.code ⟨"jdk/internal/util/Preconditions", "checkIndex", "(IILjava/util/function/BiFunction;)I"⟩ prog_45_method_11_code 3 (some FieldType.int) ∈ aW := aw_of (tb_3 (List.mem_of_getElem? (i := 41) rfl)) rfl
theorem w1447 : Cond.static ⟨"jdk/internal/util/Preconditions", "checkIndex", "(IILjava/util/function/BiFunction;)I"⟩ ∈ aW := aw_of (tb_3 (List.mem_of_getElem? (i := 40) rfl)) rfl
set_option maxHeartbeats 4000000 in
set_option maxRecDepth 100000 in
theorem v_objIndex (l : Launch) (D : va_G) (dA : Nat → ClassId) (sz : Nat) (a : Nat) (n : Nat) (h1 : a < n) (h2 : n ≤ 65536) : Met l ⟨"java/util/Objects", "checkIndex", "(II)I"⟩ [Cond.code ⟨"java/util/Objects", "checkIndex", "(II)I"⟩ prog_41_method_17_code 2 (some FieldType.int)] { frames := 2, cells := 0, slots := 0, locals := 22 } (pC D dA [.int (nI a), .int (nI n)] ([]) sz) (va_Qi (fun (r9 : Int32) (u9 : Unit) => r9 = nI a) (fun (u9 : Unit) t9 => bW D (va_A ([]) sz) ([]) t9) (va_A ([]) sz)) 0 0 (va_A ([]) sz) := by
  refine mkC (y := ⟨"java/util/Objects", "checkIndex", "(II)I"⟩) (cc := prog_41_method_17_code) (maxL := 2) (av := [.int (nI a), .int (nI n)]) (ws := []) (sz := sz) (Qc := fun A => va_Qi (fun (r9 : Int32) (u9 : Unit) => r9 = nI a) (fun (u9 : Unit) t9 => bW D A ([]) t9) A) (by decide) (Nat.le_of_ble_eq_true rfl) ?_
  intro A p e s m below meth c ls hsz hB
  obtain ⟨hx, hb, hr, hml, hown, hin, hlk, hE, hK, hP, hD, hS, hA, hN, hl⟩ := hB
  have hown : s.vm.findClass "java/util/Objects" = some m.cls := hown
  have hl : lv_has ls 2 [(0, .int (nI a)), (1, .int (nI n))] := hl
  obtain ⟨H, hH⟩ : ∃ z, z = s.heap := ⟨_, rfl⟩
  have hP : va_P D vwCl ([]) H := by rw [hH]; exact hP
  have hS : va_S A s.heap H [] := by rw [hH]; exact hS
  rw [← hH]
  refine lv_iload_n hx hb d_Objects_checkIndex_0 rfl (lv_at hl 0 rfl) ?_
  refine lv_iload_n hx hb d_Objects_checkIndex_1 rfl (lv_at hl 1 rfl) ?_
  refine lv_null hx hb d_Objects_checkIndex_2 ?_
  have hPc := hP.sub (ws' := []) [] rfl
  have hDc := hD.sub (ws' := []) [] (by decide) rfl
  refine jpI (rnS (As := [.int (nI a), .int (nI n), .null]) (rest := []) hx hb hml hown hE hK (hN _ _ hS) hPc hDc (v_preIndex l D dA H.size a n (show a < n from by omega) (show n ≤ 65536 from by omega)) w1446 w1444 w1447 w1445 rfl rfl ⟨⟨by decide, by decide⟩, rfl⟩ ⟨(Nat.le_of_ble_eq_true rfl), (Nat.le_of_ble_eq_true rfl)⟩ rfl hl.1 rfl (Nat.le_of_ble_eq_true rfl) d_Objects_checkIndex_3 ⟨(Nat.le_of_ble_eq_true rfl), (Nat.le_of_ble_eq_true rfl)⟩) hP hD hS hA (fun r1 u9 H locs hp9 hP hD hS => ?_)
  have hP : va_P D vwCl ([]) H := hP
  have hD : va_D A ([]) := hD
  replace hp9 : nI a = r1 := Eq.symm hp9
  subst hp9
  exact rfI hx hb hr hlk hS () rfl hP hD (Nat.le_of_ble_eq_true rfl) (Nat.le_of_ble_eq_true rfl) d_Objects_checkIndex_6
theorem d_L_size_0 : decode prog_37_method_8_code 0 = .ok (.aload_n 0, 1) := by decide +kernel
theorem d_L_size_1 : decode prog_37_method_8_code 1 = .ok (.getfield 48, 3) := by decide +kernel
theorem d_L_size_4 : decode prog_37_method_8_code 4 = .ok (.ireturn, 1) := by decide +kernel
set_option maxHeartbeats 4000000 in
set_option maxRecDepth 100000 in
theorem v_Lsize (l : Launch) (D : va_G) (dA : Nat → ClassId) (sz : Nat) (ws : va_W) (la : Nat → Nat) (g : LI) : Met l ⟨"java/util/ArrayList", "size", "()I"⟩ [Cond.code ⟨"java/util/ArrayList", "size", "()I"⟩ prog_37_method_8_code 1 (some FieldType.int)] { frames := 1, cells := 0, slots := 0, locals := 0 } (pC D dA [.ref (la 0)] (LiW dA la g ++ (ws)) sz) (va_Qi (fun (r9 : Int32) (u9 : Unit) => r9 = nI g.sz) (fun (u9 : Unit) t9 => bW D (va_A (LiW dA la g ++ (ws)) sz) (LiW dA la g ++ (ws)) t9) (va_A (LiW dA la g ++ (ws)) sz)) 0 0 (va_A (LiW dA la g ++ (ws)) sz) := by
  refine mkC (y := ⟨"java/util/ArrayList", "size", "()I"⟩) (cc := prog_37_method_8_code) (maxL := 1) (av := [.ref (la 0)]) (ws := LiW dA la g ++ (ws)) (sz := sz) (Qc := fun A => va_Qi (fun (r9 : Int32) (u9 : Unit) => r9 = nI g.sz) (fun (u9 : Unit) t9 => bW D A (LiW dA la g ++ (ws)) t9) A) (by decide) (Nat.le_of_ble_eq_true rfl) ?_
  intro A p e s m below meth c ls hsz hB
  obtain ⟨hx, hb, hr, hml, hown, hin, hlk, hE, hK, hP, hD, hS, hA, hN, hl⟩ := hB
  have hown : s.vm.findClass "java/util/ArrayList" = some m.cls := hown
  have hl : lv_has ls 1 [(0, .ref (la 0))] := hl
  obtain ⟨H, hH⟩ : ∃ z, z = s.heap := ⟨_, rfl⟩
  have hP : va_P D vwCl (LiW dA la g ++ (ws)) H := by rw [hH]; exact hP
  have hS : va_S A s.heap H [] := by rw [hH]; exact hS
  rw [← hH]
  refine lv_aload_n hx hb d_L_size_0 rfl (lv_at hl 0 rfl) ?_
  refine gF (v := .int (nI g.sz)) hx hb hown hE hK hP 0 rfl rfl layL 1 (by decide) w657 rfl d_L_size_1 ?_
  exact rfI hx hb hr hlk hS () rfl hP hD (Nat.le_of_ble_eq_true rfl) (Nat.le_of_ble_eq_true rfl) d_L_size_4
theorem d_L_elementData_0 : decode prog_37_method_18_code 0 = .ok (.aload_n 0, 1) := by decide +kernel
theorem d_L_elementData_1 : decode prog_37_method_18_code 1 = .ok (.getfield 9, 3) := by decide +kernel
theorem d_L_elementData_4 : decode prog_37_method_18_code 4 = .ok (.iload_n 1, 1) := by decide +kernel
theorem d_L_elementData_5 : decode prog_37_method_18_code 5 = .ok (.aaload, 1) := by decide +kernel
theorem d_L_elementData_6 : decode prog_37_method_18_code 6 = .ok (.areturn, 1) := by decide +kernel
set_option maxHeartbeats 4000000 in
set_option maxRecDepth 100000 in
theorem v_Lelement (l : Launch) (D : va_G) (dA : Nat → ClassId) (sz : Nat) (ws : va_W) (la : Nat → Nat) (g : LI) (i : Nat) (b : Nat) (hs : g.sz ≤ g.eN) (hn : g.eN ≤ 65536) (h1 : i < g.sz) (hel : g.el i = some b) : Met l ⟨"java/util/ArrayList", "elementData", "(I)Ljava/lang/Object;"⟩ [Cond.code ⟨"java/util/ArrayList", "elementData", "(I)Ljava/lang/Object;"⟩ prog_37_method_18_code 2 (some (FieldType.object "java/lang/Object"))] { frames := 1, cells := 0, slots := 0, locals := 0 } (pC D dA [.ref (la 0), .int (nI i)] (LiW dA la g ++ (ws)) sz) (va_Qr (fun (_ : Unit) => True) (fun (u9 : Unit) (r9 : Nat) t9 => (b = r9) ∧ bW D (va_A (LiW dA la g ++ (ws)) sz) (LiW dA la g ++ (ws)) t9) (va_A (LiW dA la g ++ (ws)) sz)) 0 0 (va_A (LiW dA la g ++ (ws)) sz) := by
  refine mkC (y := ⟨"java/util/ArrayList", "elementData", "(I)Ljava/lang/Object;"⟩) (cc := prog_37_method_18_code) (maxL := 2) (av := [.ref (la 0), .int (nI i)]) (ws := LiW dA la g ++ (ws)) (sz := sz) (Qc := fun A => va_Qr (fun (_ : Unit) => True) (fun (u9 : Unit) (r9 : Nat) t9 => (b = r9) ∧ bW D A (LiW dA la g ++ (ws)) t9) A) (by decide) (Nat.le_of_ble_eq_true rfl) ?_
  intro A p e s m below meth c ls hsz hB
  obtain ⟨hx, hb, hr, hml, hown, hin, hlk, hE, hK, hP, hD, hS, hA, hN, hl⟩ := hB
  have hown : s.vm.findClass "java/util/ArrayList" = some m.cls := hown
  have hl : lv_has ls 2 [(0, .ref (la 0)), (1, .int (nI i))] := hl
  obtain ⟨H, hH⟩ : ∃ z, z = s.heap := ⟨_, rfl⟩
  have hP : va_P D vwCl (LiW dA la g ++ (ws)) H := by rw [hH]; exact hP
  have hS : va_S A s.heap H [] := by rw [hH]; exact hS
  rw [← hH]
  refine lv_aload_n hx hb d_L_elementData_0 rfl (lv_at hl 0 rfl) ?_
  refine gF (v := .ref g.eA) hx hb hown hE hK hP 0 rfl rfl layL 0 (by decide) w656 rfl d_L_elementData_1 ?_
  refine lv_iload_n hx hb d_L_elementData_4 rfl (lv_at hl 1 rfl) ?_
  refine nqld (f := g.el) (n := g.eN) hx hb hK hP (1) 7 rfl rfl (i) (by omega) (by omega) hel d_L_elementData_5 ?_
  exact rkR hx hb hr (Or.inl ⟨_, rfl⟩) hlk hS () rfl hP hD (Nat.le_of_ble_eq_true rfl) (Nat.le_of_ble_eq_true rfl) d_L_elementData_6
theorem d_L_get_0 : decode prog_37_method_20_code 0 = .ok (.iload_n 1, 1) := by decide +kernel
theorem d_L_get_1 : decode prog_37_method_20_code 1 = .ok (.aload_n 0, 1) := by decide +kernel
theorem d_L_get_2 : decode prog_37_method_20_code 2 = .ok (.getfield 48, 3) := by decide +kernel
theorem d_L_get_5 : decode prog_37_method_20_code 5 = .ok (.invokestatic 118, 3) := by decide +kernel
theorem d_L_get_8 : decode prog_37_method_20_code 8 = .ok (.pop, 1) := by decide +kernel
theorem d_L_get_9 : decode prog_37_method_20_code 9 = .ok (.aload_n 0, 1) := by decide +kernel
theorem d_L_get_10 : decode prog_37_method_20_code 10 = .ok (.iload_n 1, 1) := by decide +kernel
theorem d_L_get_11 : decode prog_37_method_20_code 11 = .ok (.invokevirtual 123, 3) := by decide +kernel
theorem d_L_get_14 : decode prog_37_method_20_code 14 = .ok (.areturn, 1) := by decide +kernel
theorem w1448 : Cond.methodLink "java/util/ArrayList" 118 ⟨"java/util/Objects", "checkIndex", "(II)I"⟩ ∈ aW := aw_of (tb_3 (List.mem_of_getElem? (i := 36) rfl)) rfl
theorem w1449 : Cond.initialized "java/util/Objects" ∈ aW := aw_of (tb_1 (List.mem_of_getElem? (i := 36) rfl)) rfl
theorem w1450 : Cond.code ⟨"java/util/Objects", "checkIndex", "(II)I"⟩ prog_41_method_17_code 2 (some FieldType.int) ∈ aW := aw_of (tb_3 (List.mem_of_getElem? (i := 38) rfl)) rfl
theorem w1451 : Cond.static ⟨"java/util/Objects", "checkIndex", "(II)I"⟩ ∈ aW := aw_of (tb_3 (List.mem_of_getElem? (i := 37) rfl)) rfl
theorem w1452 : Cond.methodLink "java/util/ArrayList" 123 ⟨"java/util/ArrayList", "elementData", "(I)Ljava/lang/Object;"⟩ ∈ aW := aw_of (tb_3 (List.mem_of_getElem? (i := 42) rfl)) rfl
theorem w1453 : Cond.code ⟨"java/util/ArrayList", "elementData", "(I)Ljava/lang/Object;"⟩ prog_37_method_18_code 2 (some (FieldType.object "java/lang/Object")) ∈ aW := aw_of (tb_3 (List.mem_of_getElem? (i := 45) rfl)) rfl
theorem w1454 : Cond.instanceMethod ⟨"java/util/ArrayList", "elementData", "(I)Ljava/lang/Object;"⟩ ∈ aW := aw_of (tb_3 (List.mem_of_getElem? (i := 43) rfl)) rfl
theorem w1455 : Cond.selects "java/util/ArrayList" ⟨"java/util/ArrayList", "elementData", "(I)Ljava/lang/Object;"⟩ ⟨"java/util/ArrayList", "elementData", "(I)Ljava/lang/Object;"⟩ ∈ aW := aw_of (tb_3 (List.mem_of_getElem? (i := 44) rfl)) rfl
set_option maxHeartbeats 4000000 in
set_option maxRecDepth 100000 in
theorem v_Lget (l : Launch) (D : va_G) (dA : Nat → ClassId) (sz : Nat) (ws : va_W) (la : Nat → Nat) (g : LI) (i : Nat) (b : Nat) (hs : g.sz ≤ g.eN) (hn : g.eN ≤ 65536) (h1 : i < g.sz) (hel : g.el i = some b) : Met l ⟨"java/util/ArrayList", "get", "(I)Ljava/lang/Object;"⟩ [Cond.code ⟨"java/util/ArrayList", "get", "(I)Ljava/lang/Object;"⟩ prog_37_method_20_code 2 (some (FieldType.object "java/lang/Object"))] { frames := 3, cells := 0, slots := 0, locals := 43 } (pC D dA [.ref (la 0), .int (nI i)] (LiW dA la g ++ (ws)) sz) (va_Qr (fun (_ : Unit) => True) (fun (u9 : Unit) (r9 : Nat) t9 => (b = r9) ∧ bW D (va_A (LiW dA la g ++ (ws)) sz) (LiW dA la g ++ (ws)) t9) (va_A (LiW dA la g ++ (ws)) sz)) 0 0 (va_A (LiW dA la g ++ (ws)) sz) := by
  refine mkC (y := ⟨"java/util/ArrayList", "get", "(I)Ljava/lang/Object;"⟩) (cc := prog_37_method_20_code) (maxL := 2) (av := [.ref (la 0), .int (nI i)]) (ws := LiW dA la g ++ (ws)) (sz := sz) (Qc := fun A => va_Qr (fun (_ : Unit) => True) (fun (u9 : Unit) (r9 : Nat) t9 => (b = r9) ∧ bW D A (LiW dA la g ++ (ws)) t9) A) (by decide) (Nat.le_of_ble_eq_true rfl) ?_
  intro A p e s m below meth c ls hsz hB
  obtain ⟨hx, hb, hr, hml, hown, hin, hlk, hE, hK, hP, hD, hS, hA, hN, hl⟩ := hB
  have hown : s.vm.findClass "java/util/ArrayList" = some m.cls := hown
  have hl : lv_has ls 2 [(0, .ref (la 0)), (1, .int (nI i))] := hl
  obtain ⟨H, hH⟩ : ∃ z, z = s.heap := ⟨_, rfl⟩
  have hP : va_P D vwCl (LiW dA la g ++ (ws)) H := by rw [hH]; exact hP
  have hS : va_S A s.heap H [] := by rw [hH]; exact hS
  rw [← hH]
  refine lv_iload_n hx hb d_L_get_0 rfl (lv_at hl 1 rfl) ?_
  refine lv_aload_n hx hb d_L_get_1 rfl (lv_at hl 0 rfl) ?_
  refine gF (v := .int (nI g.sz)) hx hb hown hE hK hP 0 rfl rfl layL 1 (by decide) w657 rfl d_L_get_2 ?_
  have hPc := hP.sub (ws' := []) [] rfl
  have hDc := hD.sub (ws' := []) [] (by decide) rfl
  refine jpI (rnS (As := [.int (nI i), .int (nI g.sz)]) (rest := []) hx hb hml hown hE hK (hN _ _ hS) hPc hDc (v_objIndex l D dA H.size i g.sz (show i < g.sz from by omega) (show g.sz ≤ 65536 from by omega)) w1450 w1448 w1451 w1449 rfl rfl ⟨⟨by decide, by decide⟩, rfl⟩ ⟨(Nat.le_of_ble_eq_true rfl), (Nat.le_of_ble_eq_true rfl)⟩ rfl hl.1 rfl (Nat.le_of_ble_eq_true rfl) d_L_get_5 ⟨(Nat.le_of_ble_eq_true rfl), (Nat.le_of_ble_eq_true rfl)⟩) hP hD hS hA (fun r1 u9 H locs hp9 hP hD hS => ?_)
  have hP : va_P D vwCl (LiW dA la g ++ (ws)) H := hP
  have hD : va_D A (LiW dA la g ++ (ws)) := hD
  replace hp9 : nI i = r1 := Eq.symm hp9
  subst hp9
  refine lv_pop hx hb d_L_get_8 rfl ?_
  refine lv_aload_n hx hb d_L_get_9 rfl (lv_at hl 0 rfl) ?_
  refine lv_iload_n hx hb d_L_get_10 rfl (lv_at hl 1 rfl) ?_
  refine jkR (wr := []) (rnV (As := [.int (nI i)]) (rest := []) hx hb hml hown hE hK (hN _ _ hS) hP hD (v_Lelement l D dA H.size ws la g i b (show g.sz ≤ g.eN from by omega) (show g.eN ≤ 65536 from by omega) (show i < g.sz from by omega) hel) (q0 := 0) rfl rfl w1453 w1452 w1454 w1455 w680 rfl rfl ⟨⟨by decide, by decide⟩, rfl⟩ ⟨(Nat.le_of_ble_eq_true rfl), (Nat.le_of_ble_eq_true rfl)⟩ rfl hl.1 rfl (Nat.le_of_ble_eq_true rfl) d_L_get_11 ⟨(Nat.le_of_ble_eq_true rfl), (Nat.le_of_ble_eq_true rfl)⟩) hP hD hS hA (fun u4 r3 H locs hp9 hP hD hS => ?_)
  have hP : va_P D vwCl (LiW dA la g ++ (ws)) H := hP
  have hD : va_D A (LiW dA la g ++ (ws)) := hD
  have f_e_5 := hp9
  have e9 := f_e_5
  subst e9
  exact rkR hx hb hr (Or.inl ⟨_, rfl⟩) hlk hS () rfl hP hD (Nat.le_of_ble_eq_true rfl) (Nat.le_of_ble_eq_true rfl) d_L_get_14
theorem d_L_set_0 : decode prog_37_method_23_code 0 = .ok (.iload_n 1, 1) := by decide +kernel
theorem d_L_set_1 : decode prog_37_method_23_code 1 = .ok (.aload_n 0, 1) := by decide +kernel
theorem d_L_set_2 : decode prog_37_method_23_code 2 = .ok (.getfield 48, 3) := by decide +kernel
theorem d_L_set_5 : decode prog_37_method_23_code 5 = .ok (.invokestatic 118, 3) := by decide +kernel
theorem d_L_set_8 : decode prog_37_method_23_code 8 = .ok (.pop, 1) := by decide +kernel
theorem d_L_set_9 : decode prog_37_method_23_code 9 = .ok (.aload_n 0, 1) := by decide +kernel
theorem d_L_set_10 : decode prog_37_method_23_code 10 = .ok (.iload_n 1, 1) := by decide +kernel
theorem d_L_set_11 : decode prog_37_method_23_code 11 = .ok (.invokevirtual 123, 3) := by decide +kernel
theorem d_L_set_14 : decode prog_37_method_23_code 14 = .ok (.astore_n 3, 1) := by decide +kernel
theorem d_L_set_15 : decode prog_37_method_23_code 15 = .ok (.aload_n 0, 1) := by decide +kernel
theorem d_L_set_16 : decode prog_37_method_23_code 16 = .ok (.getfield 9, 3) := by decide +kernel
theorem d_L_set_19 : decode prog_37_method_23_code 19 = .ok (.iload_n 1, 1) := by decide +kernel
theorem d_L_set_20 : decode prog_37_method_23_code 20 = .ok (.aload_n 2, 1) := by decide +kernel
theorem d_L_set_21 : decode prog_37_method_23_code 21 = .ok (.aastore, 1) := by decide +kernel
theorem d_L_set_22 : decode prog_37_method_23_code 22 = .ok (.aload_n 3, 1) := by decide +kernel
theorem d_L_set_23 : decode prog_37_method_23_code 23 = .ok (.areturn, 1) := by decide +kernel
set_option maxHeartbeats 4000000 in
set_option maxRecDepth 100000 in
theorem v_Lset (l : Launch) (D : va_G) (dA : Nat → ClassId) (sz : Nat) (ws : va_W) (la : Nat → Nat) (g : LI) (i : Nat) (b : Nat) (v : Nat) (fs : List Value) (hs : g.sz ≤ g.eN) (hn : g.eN ≤ 65536) (h1 : i < g.sz) (hel : g.el i = some b) (mo : (v, .inr (8, fs)) ∈ ws) : Met l ⟨"java/util/ArrayList", "set", "(ILjava/lang/Object;)Ljava/lang/Object;"⟩ [Cond.code ⟨"java/util/ArrayList", "set", "(ILjava/lang/Object;)Ljava/lang/Object;"⟩ prog_37_method_23_code 4 (some (FieldType.object "java/lang/Object"))] { frames := 3, cells := 0, slots := 0, locals := 43 } (pC D dA [.ref (la 0), .int (nI i), .ref v] (LiW dA la g ++ (ws)) sz) (va_Qr (fun (_ : Unit) => True) (fun (u9 : Unit) (r9 : Nat) t9 => (b = r9) ∧ bW D (va_A (LiW dA la g ++ (ws)) sz) (LiW dA la (LI.s_el g (va_up g.el i (some v))) ++ (ws)) t9) (va_A (LiW dA la g ++ (ws)) sz)) 0 0 (va_A (LiW dA la g ++ (ws)) sz) := by
  refine mkC (y := ⟨"java/util/ArrayList", "set", "(ILjava/lang/Object;)Ljava/lang/Object;"⟩) (cc := prog_37_method_23_code) (maxL := 4) (av := [.ref (la 0), .int (nI i), .ref v]) (ws := LiW dA la g ++ (ws)) (sz := sz) (Qc := fun A => va_Qr (fun (_ : Unit) => True) (fun (u9 : Unit) (r9 : Nat) t9 => (b = r9) ∧ bW D A (LiW dA la (LI.s_el g (va_up g.el i (some v))) ++ (ws)) t9) A) (by decide) (Nat.le_of_ble_eq_true rfl) ?_
  intro A p e s m below meth c ls hsz hB
  obtain ⟨hx, hb, hr, hml, hown, hin, hlk, hE, hK, hP, hD, hS, hA, hN, hl⟩ := hB
  have hown : s.vm.findClass "java/util/ArrayList" = some m.cls := hown
  have hl : lv_has ls 4 [(0, .ref (la 0)), (1, .int (nI i)), (2, .ref v)] := hl
  obtain ⟨H, hH⟩ : ∃ z, z = s.heap := ⟨_, rfl⟩
  have hP : va_P D vwCl (LiW dA la g ++ (ws)) H := by rw [hH]; exact hP
  have hS : va_S A s.heap H [] := by rw [hH]; exact hS
  rw [← hH]
  refine lv_iload_n hx hb d_L_set_0 rfl (lv_at hl 1 rfl) ?_
  refine lv_aload_n hx hb d_L_set_1 rfl (lv_at hl 0 rfl) ?_
  refine gF (v := .int (nI g.sz)) hx hb hown hE hK hP 0 rfl rfl layL 1 (by decide) w657 rfl d_L_set_2 ?_
  have hPc := hP.sub (ws' := []) [] rfl
  have hDc := hD.sub (ws' := []) [] (by decide) rfl
  refine jpI (rnS (As := [.int (nI i), .int (nI g.sz)]) (rest := []) hx hb hml hown hE hK (hN _ _ hS) hPc hDc (v_objIndex l D dA H.size i g.sz (show i < g.sz from by omega) (show g.sz ≤ 65536 from by omega)) w1450 w1448 w1451 w1449 rfl rfl ⟨⟨by decide, by decide⟩, rfl⟩ ⟨(Nat.le_of_ble_eq_true rfl), (Nat.le_of_ble_eq_true rfl)⟩ rfl hl.1 rfl (Nat.le_of_ble_eq_true rfl) d_L_set_5 ⟨(Nat.le_of_ble_eq_true rfl), (Nat.le_of_ble_eq_true rfl)⟩) hP hD hS hA (fun r1 u9 H locs hp9 hP hD hS => ?_)
  have hP : va_P D vwCl (LiW dA la g ++ (ws)) H := hP
  have hD : va_D A (LiW dA la g ++ (ws)) := hD
  replace hp9 : nI i = r1 := Eq.symm hp9
  subst hp9
  refine lv_pop hx hb d_L_set_8 rfl ?_
  refine lv_aload_n hx hb d_L_set_9 rfl (lv_at hl 0 rfl) ?_
  refine lv_iload_n hx hb d_L_set_10 rfl (lv_at hl 1 rfl) ?_
  refine jkR (wr := []) (rnV (As := [.int (nI i)]) (rest := []) hx hb hml hown hE hK (hN _ _ hS) hP hD (v_Lelement l D dA H.size ws la g i b (show g.sz ≤ g.eN from by omega) (show g.eN ≤ 65536 from by omega) (show i < g.sz from by omega) hel) (q0 := 0) rfl rfl w1453 w1452 w1454 w1455 w680 rfl rfl ⟨⟨by decide, by decide⟩, rfl⟩ ⟨(Nat.le_of_ble_eq_true rfl), (Nat.le_of_ble_eq_true rfl)⟩ rfl hl.1 rfl (Nat.le_of_ble_eq_true rfl) d_L_set_11 ⟨(Nat.le_of_ble_eq_true rfl), (Nat.le_of_ble_eq_true rfl)⟩) hP hD hS hA (fun u4 r3 H locs hp9 hP hD hS => ?_)
  have hP : va_P D vwCl (LiW dA la g ++ (ws)) H := hP
  have hD : va_D A (LiW dA la g ++ (ws)) := hD
  have f_e_5 := hp9
  have e9 := f_e_5
  subst e9
  refine lv_astore_n hx hb d_L_set_14 rfl hl (by decide) rfl (fun ls hl => ?_)
  have hl : lv_has ls 4 [(3, .ref b), (0, .ref (la 0)), (1, .int (nI i)), (2, .ref v)] := hl
  refine lv_aload_n hx hb d_L_set_15 rfl (lv_at hl 1 rfl) ?_
  refine gF (v := .ref g.eA) hx hb hown hE hK hP 0 rfl rfl layL 0 (by decide) w656 rfl d_L_set_16 ?_
  refine lv_iload_n hx hb d_L_set_19 rfl (lv_at hl 2 rfl) ?_
  refine lv_aload_n hx hb d_L_set_20 rfl (lv_at hl 3 rfl) ?_
  obtain ⟨qp6, ep7⟩ := List.getElem?_of_mem (show ((v, .inr (8, fs)) : Nat × va_E) ∈ LiW dA la g ++ (ws) from (List.mem_append_right _ mo))
  refine nqstO (E := "java/lang/Object") (r := ("SeriesVault$Table", TT, 7)) (f := g.el) (n := g.eN) hx hb hK hP hD hS (1) 7 (qp6) 8 rfl rfl (show va_Nw (.castable "SeriesVault$Table" "java/lang/Object") s from hE.1 _ w776) ep7 rfl (i) (by omega) (by omega) d_L_set_21 (fun H locs hP hD hS => ?_)
  have hP : va_P D vwCl (LiW dA la (LI.s_el g (va_up g.el i (some v))) ++ (ws)) H := hP
  have hD : va_D A (LiW dA la (LI.s_el g (va_up g.el i (some v))) ++ (ws)) := hD
  refine lv_aload_n hx hb d_L_set_22 rfl (lv_at hl 0 rfl) ?_
  exact rkR hx hb hr (Or.inl ⟨_, rfl⟩) hlk hS () rfl hP hD (Nat.le_of_ble_eq_true rfl) (Nat.le_of_ble_eq_true rfl) d_L_set_23
theorem d_L_clear_32 : decode prog_37_method_40_code 32 = .ok (.aload_n 1, 1) := by decide +kernel
theorem d_L_clear_33 : decode prog_37_method_40_code 33 = .ok (.iload_n 3, 1) := by decide +kernel
theorem d_L_clear_34 : decode prog_37_method_40_code 34 = .ok (.aconst_null, 1) := by decide +kernel
theorem d_L_clear_35 : decode prog_37_method_40_code 35 = .ok (.aastore, 1) := by decide +kernel
theorem d_L_clear_36 : decode prog_37_method_40_code 36 = .ok (.iinc 3 1, 3) := by decide +kernel
theorem d_L_clear_39 : decode prog_37_method_40_code 39 = .ok (.goto (-12), 3) := by decide +kernel
set_option maxHeartbeats 4000000 in
set_option maxRecDepth 100000 in
theorem v_Lclear (l : Launch) (D : va_G) (dA : Nat → ClassId) (sz : Nat) (ws : va_W) (la : Nat → Nat) (g : LI) (hs : g.sz ≤ g.eN) (hn : g.eN ≤ 65536) : Met l ⟨"java/util/ArrayList", "clear", "()V"⟩ [Cond.code ⟨"java/util/ArrayList", "clear", "()V"⟩ prog_37_method_40_code 4 none] { frames := 1, cells := 0, slots := 0, locals := 0 } (pC D dA [.ref (la 0)] (LiW dA la g ++ (ws)) sz) (va_Qv (fun (u9 : Unit) => True) (fun (u9 : Unit) t9 => bW D (va_A (LiW dA la g ++ (ws)) sz) (LiW dA la (LI.s_el (LI.s_mc (LI.s_sz g 0) (g.mc + 1)) (clF g.el g.sz)) ++ (ws)) t9) (va_A (LiW dA la g ++ (ws)) sz)) 0 0 (va_A (LiW dA la g ++ (ws)) sz) := by
  refine mkC (y := ⟨"java/util/ArrayList", "clear", "()V"⟩) (cc := prog_37_method_40_code) (maxL := 4) (av := [.ref (la 0)]) (ws := LiW dA la g ++ (ws)) (sz := sz) (Qc := fun A => va_Qv (fun (u9 : Unit) => True) (fun (u9 : Unit) t9 => bW D A (LiW dA la (LI.s_el (LI.s_mc (LI.s_sz g 0) (g.mc + 1)) (clF g.el g.sz)) ++ (ws)) t9) A) (by decide) (Nat.le_of_ble_eq_true rfl) ?_
  intro A p e s m below meth c ls hsz hB
  obtain ⟨hx, hb, hr, hml, hown, hin, hlk, hE, hK, hP, hD, hS, hA, hN, hl⟩ := hB
  have hown : s.vm.findClass "java/util/ArrayList" = some m.cls := hown
  have hl : lv_has ls 4 [(0, .ref (la 0))] := hl
  obtain ⟨H, hH⟩ : ∃ z, z = s.heap := ⟨_, rfl⟩
  have hP : va_P D vwCl (LiW dA la g ++ (ws)) H := by rw [hH]; exact hP
  have hS : va_S A s.heap H [] := by rw [hH]; exact hS
  rw [← hH]
  refine lv_aload_n hx hb d_L_clear_0 rfl (lv_at hl 0 rfl) ?_
  refine lv_dup hx hb d_L_clear_1 rfl ?_
  refine gFU (v := .int g.mc) hx hb hown hE hK hP 0 rfl rfl layL 2 (by decide) w654 w655 rfl d_L_clear_2 ?_
  refine lv_iconst (v := 1) hx hb d_L_clear_5 (by decide) ?_
  refine lv_iadd hx hb d_L_clear_6 ?_
  refine pFU (v := .int (g.mc + 1)) hx hb hown hE hK hP hD hS 0 rfl rfl layL tyL tokL nmL 2 (by decide) w654 w655 rfl rfl rfl (Nat.le_of_ble_eq_true rfl) d_L_clear_7 (fun H locs hP hD hS => ?_)
  have hP : va_P D vwCl (LiW dA la (LI.s_mc g (g.mc + 1)) ++ (ws)) H := hP
  have hD : va_D A (LiW dA la (LI.s_mc g (g.mc + 1)) ++ (ws)) := hD
  refine lv_aload_n hx hb d_L_clear_10 rfl (lv_at hl 0 rfl) ?_
  refine gF (v := .ref g.eA) hx hb hown hE hK hP 0 rfl rfl layL 0 (by decide) w656 rfl d_L_clear_11 ?_
  refine lv_astore_n hx hb d_L_clear_14 rfl hl (by decide) rfl (fun ls hl => ?_)
  have hl : lv_has ls 4 [(1, .ref g.eA), (0, .ref (la 0))] := hl
  refine lv_aload_n hx hb d_L_clear_15 rfl (lv_at hl 1 rfl) ?_
  refine gF (v := .int (nI g.sz)) hx hb hown hE hK hP 0 rfl rfl layL 1 (by decide) w657 rfl d_L_clear_16 ?_
  refine lv_istore_n hx hb d_L_clear_19 rfl hl (by decide) rfl (fun ls hl => ?_)
  have hl : lv_has ls 4 [(2, .int (nI g.sz)), (1, .ref g.eA), (0, .ref (la 0))] := hl
  refine lv_aload_n hx hb d_L_clear_20 rfl (lv_at hl 2 rfl) ?_
  refine lv_iconst (v := 0) hx hb d_L_clear_21 (by decide) ?_
  refine lv_dup_x1 hx hb d_L_clear_22 rfl rfl ?_
  refine pF (v := .int (nI 0)) hx hb hown hE hK hP hD hS 0 rfl rfl layL tyL tokL nmL 1 (by decide) w657 rfl rfl rfl (Nat.le_of_ble_eq_true rfl) d_L_clear_23 (fun H locs hP hD hS => ?_)
  have hP : va_P D vwCl (LiW dA la (LI.s_mc (LI.s_sz g 0) (g.mc + 1)) ++ (ws)) H := hP
  have hD : va_D A (LiW dA la (LI.s_mc (LI.s_sz g 0) (g.mc + 1)) ++ (ws)) := hD
  refine lv_istore_n hx hb d_L_clear_26 rfl hl (by decide) rfl (fun ls hl => ?_)
  have hl : lv_has ls 4 [(3, .int 0), (2, .int (nI g.sz)), (1, .ref g.eA), (0, .ref (la 0))] := hl
  have L27 : ∀ (k9 : Nat) (i : Nat) (i1 : i ≤ g.sz) (hk9 : g.sz - i = k9), ∀ (H : Heap) (locs : List Loc) (ls : Array Slot) (hP : va_P D vwCl (LiW dA la (LI.s_el (LI.s_mc (LI.s_sz g 0) (g.mc + 1)) (clF g.el i)) ++ (ws)) H) (hD : va_D A (LiW dA la (LI.s_el (LI.s_mc (LI.s_sz g 0) (g.mc + 1)) (clF g.el i)) ++ (ws))) (hS : va_S A s.heap H locs) (hl : lv_has ls 4 [(3, .int (nI i)), (1, .ref g.eA), (2, .int (nI g.sz)), (0, .ref (la 0))]), W p l e ({ frames := 1, cells := 0, slots := 0, locals := 0 } : Room) s m ([.ref (la 0)] : List Value).toArray below meth c H locs 0 0 (MQ below (va_Qv (fun (u9 : Unit) => True) (fun (u9 : Unit) t9 => bW D A (LiW dA la (LI.s_el (LI.s_mc (LI.s_sz g 0) (g.mc + 1)) (clF g.el g.sz)) ++ (ws)) t9) A) ([.ref (la 0)] : List Value).toArray s 0 0 A) (F0 m 27 ls []) := by
    intro k9
    induction k9 using Nat.strongRecOn with
    | ind k9 ih27 =>
      intro i i1 hk9 H locs ls hP hD hS hl
      refine lv_iload_n hx hb d_L_clear_27 rfl (lv_at hl 0 rfl) ?_
      refine lv_iload_n hx hb d_L_clear_28 rfl (lv_at hl 2 rfl) ?_
      refine lv_icmp_ge hx hb d_L_clear_29 (tgt := 42) rfl (fun g1 => ?_) (fun g1 => ?_)
      · have g1 := (nI_leI (a := g.sz) (b := i) (by omega) (by omega)).mp g1
        have e9 : (LI.s_el (LI.s_mc (LI.s_sz g 0) (g.mc + 1)) (clF g.el i) : LI) = LI.s_el (LI.s_mc (LI.s_sz g 0) (g.mc + 1)) (clF g.el g.sz) := by rw [show (clF g.el g.sz) = (clF g.el i) from by (rw [show g.sz = i by omega])] <;> rfl
        rw [e9] at hP hD
        exact rfV hx hb hr hlk hS () trivial hP hD (Nat.le_of_ble_eq_true rfl) (Nat.le_of_ble_eq_true rfl) d_L_clear_42
      · have g1 := mt (nI_leI (a := g.sz) (b := i) (by omega) (by omega)).mpr g1
        refine lv_aload_n hx hb d_L_clear_32 rfl (lv_at hl 1 rfl) ?_
        refine lv_iload_n hx hb d_L_clear_33 rfl (lv_at hl 0 rfl) ?_
        refine lv_null hx hb d_L_clear_34 ?_
        refine nqstN (f := (clF g.el i)) (n := g.eN) hx hb hK hP hD hS (1) 7 rfl rfl (i) (by omega) (by omega) d_L_clear_35 (fun H locs hP hD hS => ?_)
        have hP : va_P D vwCl (LiW dA la (LI.s_el (LI.s_mc (LI.s_sz g 0) (g.mc + 1)) (va_up (clF g.el i) i none)) ++ (ws)) H := hP
        have hD : va_D A (LiW dA la (LI.s_el (LI.s_mc (LI.s_sz g 0) (g.mc + 1)) (va_up (clF g.el i) i none)) ++ (ws)) := hD
        refine lv_iinc (k := 0) (v := nI (i + 1)) hx hb d_L_clear_36 hl rfl (iincN (i) 1 1 (by decide)) (by decide) rfl (fun ls hl => ?_)
        have hl : lv_has ls 4 [(3, .int (nI (i + 1))), (1, .ref g.eA), (2, .int (nI g.sz)), (0, .ref (la 0))] := hl
        refine lv_goto hx hb d_L_clear_39 (tgt := 27) rfl ?_
        have e9 : (LI.s_el (LI.s_mc (LI.s_sz g 0) (g.mc + 1)) (va_up (clF g.el i) i none) : LI) = LI.s_el (LI.s_mc (LI.s_sz g 0) (g.mc + 1)) (clF g.el (i + 1)) := by rw [show (clF g.el (i + 1)) = (va_up (clF g.el i) i none) from (clF_s _ _).symm] <;> rfl
        rw [e9] at hP hD
        exact ih27 _ (by omega) (i + 1) (by omega) rfl H _ ls hP hD hS (lv_sub hl [0, 1, 2, 3] rfl)
  have e9 : (LI.s_mc (LI.s_sz g 0) (g.mc + 1) : LI) = LI.s_el (LI.s_mc (LI.s_sz g 0) (g.mc + 1)) (clF g.el 0) := by rw [show (clF g.el 0) = g.el from (clF_0 _)] <;> rfl
  rw [e9] at hP hD
  exact L27 _ 0 (Nat.zero_le _) rfl H _ ls hP hD hS (lv_sub hl [0, 2, 1, 3] rfl)
theorem w1456 : Cond.castable "SeriesVault$Word" "java/lang/Object" ∈ aW := aw_of (tb_11 (List.mem_of_getElem? (i := 105) rfl)) rfl
set_option maxHeartbeats 4000000 in
set_option maxRecDepth 100000 in
theorem v_Ladd3_W (l : Launch) (D : va_G) (dA : Nat → ClassId) (sz : Nat) (ws : va_W) (la : Nat → Nat) (g : LI) (v : Nat) (fs : List Value) (h1 : g.sz < g.eN) (hn : g.eN ≤ 65536) (mo : (v, .inr (10, fs)) ∈ ws) : Met l ⟨"java/util/ArrayList", "add", "(Ljava/lang/Object;[Ljava/lang/Object;I)V"⟩ [Cond.code ⟨"java/util/ArrayList", "add", "(Ljava/lang/Object;[Ljava/lang/Object;I)V"⟩ prog_37_method_24_code 4 none] { frames := 1, cells := 0, slots := 0, locals := 0 } (pC D dA [.ref (la 0), .ref v, .ref g.eA, .int (nI g.sz)] (LiW dA la g ++ (ws)) sz) (va_Qv (fun (u9 : Unit) => True) (fun (u9 : Unit) t9 => bW D (va_A (LiW dA la g ++ (ws)) sz) (LiW dA la (LI.s_el (LI.s_sz g (g.sz + 1)) (va_up g.el g.sz (some v))) ++ (ws)) t9) (va_A (LiW dA la g ++ (ws)) sz)) 0 0 (va_A (LiW dA la g ++ (ws)) sz) := by
  refine mkC (y := ⟨"java/util/ArrayList", "add", "(Ljava/lang/Object;[Ljava/lang/Object;I)V"⟩) (cc := prog_37_method_24_code) (maxL := 4) (av := [.ref (la 0), .ref v, .ref g.eA, .int (nI g.sz)]) (ws := LiW dA la g ++ (ws)) (sz := sz) (Qc := fun A => va_Qv (fun (u9 : Unit) => True) (fun (u9 : Unit) t9 => bW D A (LiW dA la (LI.s_el (LI.s_sz g (g.sz + 1)) (va_up g.el g.sz (some v))) ++ (ws)) t9) A) (by decide) (Nat.le_of_ble_eq_true rfl) ?_
  intro A p e s m below meth c ls hsz hB
  obtain ⟨hx, hb, hr, hml, hown, hin, hlk, hE, hK, hP, hD, hS, hA, hN, hl⟩ := hB
  have hown : s.vm.findClass "java/util/ArrayList" = some m.cls := hown
  have hl : lv_has ls 4 [(0, .ref (la 0)), (1, .ref v), (2, .ref g.eA), (3, .int (nI g.sz))] := hl
  obtain ⟨H, hH⟩ : ∃ z, z = s.heap := ⟨_, rfl⟩
  have hP : va_P D vwCl (LiW dA la g ++ (ws)) H := by rw [hH]; exact hP
  have hS : va_S A s.heap H [] := by rw [hH]; exact hS
  rw [← hH]
  refine lv_iload_n hx hb d_L_add_faf_0 rfl (lv_at hl 3 rfl) ?_
  refine lv_aload_n hx hb d_L_add_faf_1 rfl (lv_at hl 2 rfl) ?_
  refine va_alen (v := nI g.eN) hx hb hK hP (1) 7 rfl rfl rfl d_L_add_faf_2 ?_
  refine lv_icmp_ne hx hb d_L_add_faf_3 (tgt := 11) rfl (fun g1 => ?_) (fun g1 => ?_)
  rotate_left
  · have g1 := (nI_eq (a := g.sz) (b := g.eN) (by omega) (by omega)).mp g1; exfalso; omega
  have g1 := mt (nI_eq (a := g.sz) (b := g.eN) (by omega) (by omega)).mpr g1
  refine lv_aload_n hx hb d_L_add_faf_11 rfl (lv_at hl 2 rfl) ?_
  refine lv_iload_n hx hb d_L_add_faf_12 rfl (lv_at hl 3 rfl) ?_
  refine lv_aload_n hx hb d_L_add_faf_13 rfl (lv_at hl 1 rfl) ?_
  obtain ⟨qp2, ep3⟩ := List.getElem?_of_mem (show ((v, .inr (10, fs)) : Nat × va_E) ∈ LiW dA la g ++ (ws) from (List.mem_append_right _ mo))
  refine nqstO (E := "java/lang/Object") (r := ("SeriesVault$Word", TW, 1)) (f := g.el) (n := g.eN) hx hb hK hP hD hS (1) 7 (qp2) 10 rfl rfl (show va_Nw (.castable "SeriesVault$Word" "java/lang/Object") s from hE.1 _ w1456) ep3 rfl (g.sz) (by omega) (by omega) d_L_add_faf_14 (fun H locs hP hD hS => ?_)
  have hP : va_P D vwCl (LiW dA la (LI.s_el g (va_up g.el g.sz (some v))) ++ (ws)) H := hP
  have hD : va_D A (LiW dA la (LI.s_el g (va_up g.el g.sz (some v))) ++ (ws)) := hD
  refine lv_aload_n hx hb d_L_add_faf_15 rfl (lv_at hl 0 rfl) ?_
  refine lv_iload_n hx hb d_L_add_faf_16 rfl (lv_at hl 3 rfl) ?_
  refine lv_iconst (v := 1) hx hb d_L_add_faf_17 (by decide) ?_
  refine lv_iadd hx hb d_L_add_faf_18 (tpi (y := nI (g.sz + 1)) (nI_add (g.sz) (1)) ?_)
  refine pF (v := .int (nI (g.sz + 1))) hx hb hown hE hK hP hD hS 0 rfl rfl layL tyL tokL nmL 1 (by decide) w657 rfl rfl rfl (Nat.le_of_ble_eq_true rfl) d_L_add_faf_19 (fun H locs hP hD hS => ?_)
  have hP : va_P D vwCl (LiW dA la (LI.s_el (LI.s_sz g (g.sz + 1)) (va_up g.el g.sz (some v))) ++ (ws)) H := hP
  have hD : va_D A (LiW dA la (LI.s_el (LI.s_sz g (g.sz + 1)) (va_up g.el g.sz (some v))) ++ (ws)) := hD
  exact rfV hx hb hr hlk hS () trivial hP hD (Nat.le_of_ble_eq_true rfl) (Nat.le_of_ble_eq_true rfl) d_L_add_faf_22
set_option maxHeartbeats 4000000 in
set_option maxRecDepth 100000 in
theorem v_Ladd_W (l : Launch) (D : va_G) (dA : Nat → ClassId) (sz : Nat) (ws : va_W) (la : Nat → Nat) (g : LI) (v : Nat) (fs : List Value) (h1 : g.sz < g.eN) (hn : g.eN ≤ 65536) (mo : (v, .inr (10, fs)) ∈ ws) : Met l ⟨"java/util/ArrayList", "add", "(Ljava/lang/Object;)Z"⟩ [Cond.code ⟨"java/util/ArrayList", "add", "(Ljava/lang/Object;)Z"⟩ prog_37_method_25_code 2 (some FieldType.boolean)] { frames := 2, cells := 0, slots := 0, locals := 23 } (pC D dA [.ref (la 0), .ref v] (LiW dA la g ++ (ws)) sz) (va_Qi (fun (r9 : Int32) (u9 : Unit) => r9 = 1) (fun (u9 : Unit) t9 => bW D (va_A (LiW dA la g ++ (ws)) sz) (LiW dA la (LI.s_el (LI.s_mc (LI.s_sz g (g.sz + 1)) (g.mc + 1)) (va_up g.el g.sz (some v))) ++ (ws)) t9) (va_A (LiW dA la g ++ (ws)) sz)) 0 0 (va_A (LiW dA la g ++ (ws)) sz) := by
  refine mkC (y := ⟨"java/util/ArrayList", "add", "(Ljava/lang/Object;)Z"⟩) (cc := prog_37_method_25_code) (maxL := 2) (av := [.ref (la 0), .ref v]) (ws := LiW dA la g ++ (ws)) (sz := sz) (Qc := fun A => va_Qi (fun (r9 : Int32) (u9 : Unit) => r9 = 1) (fun (u9 : Unit) t9 => bW D A (LiW dA la (LI.s_el (LI.s_mc (LI.s_sz g (g.sz + 1)) (g.mc + 1)) (va_up g.el g.sz (some v))) ++ (ws)) t9) A) (by decide) (Nat.le_of_ble_eq_true rfl) ?_
  intro A p e s m below meth c ls hsz hB
  obtain ⟨hx, hb, hr, hml, hown, hin, hlk, hE, hK, hP, hD, hS, hA, hN, hl⟩ := hB
  have hown : s.vm.findClass "java/util/ArrayList" = some m.cls := hown
  have hl : lv_has ls 2 [(0, .ref (la 0)), (1, .ref v)] := hl
  obtain ⟨H, hH⟩ : ∃ z, z = s.heap := ⟨_, rfl⟩
  have hP : va_P D vwCl (LiW dA la g ++ (ws)) H := by rw [hH]; exact hP
  have hS : va_S A s.heap H [] := by rw [hH]; exact hS
  rw [← hH]
  refine lv_aload_n hx hb d_L_add_9ae_0 rfl (lv_at hl 0 rfl) ?_
  refine lv_dup hx hb d_L_add_9ae_1 rfl ?_
  refine gFU (v := .int g.mc) hx hb hown hE hK hP 0 rfl rfl layL 2 (by decide) w654 w655 rfl d_L_add_9ae_2 ?_
  refine lv_iconst (v := 1) hx hb d_L_add_9ae_5 (by decide) ?_
  refine lv_iadd hx hb d_L_add_9ae_6 ?_
  refine pFU (v := .int (g.mc + 1)) hx hb hown hE hK hP hD hS 0 rfl rfl layL tyL tokL nmL 2 (by decide) w654 w655 rfl rfl rfl (Nat.le_of_ble_eq_true rfl) d_L_add_9ae_7 (fun H locs hP hD hS => ?_)
  have hP : va_P D vwCl (LiW dA la (LI.s_mc g (g.mc + 1)) ++ (ws)) H := hP
  have hD : va_D A (LiW dA la (LI.s_mc g (g.mc + 1)) ++ (ws)) := hD
  refine lv_aload_n hx hb d_L_add_9ae_10 rfl (lv_at hl 0 rfl) ?_
  refine lv_aload_n hx hb d_L_add_9ae_11 rfl (lv_at hl 1 rfl) ?_
  refine lv_aload_n hx hb d_L_add_9ae_12 rfl (lv_at hl 0 rfl) ?_
  refine gF (v := .ref g.eA) hx hb hown hE hK hP 0 rfl rfl layL 0 (by decide) w656 rfl d_L_add_9ae_13 ?_
  refine lv_aload_n hx hb d_L_add_9ae_16 rfl (lv_at hl 0 rfl) ?_
  refine gF (v := .int (nI g.sz)) hx hb hown hE hK hP 0 rfl rfl layL 1 (by decide) w657 rfl d_L_add_9ae_17 ?_
  refine jkV (wr := []) (rnV (As := [.ref v, .ref g.eA, .int (nI g.sz)]) (rest := []) hx hb hml hown hE hK (hN _ _ hS) hP hD (v_Ladd3_W l D dA H.size ws la (LI.s_mc g (g.mc + 1)) v fs (show g.sz < g.eN from by omega) (show g.eN ≤ 65536 from by omega) mo) (q0 := 0) rfl rfl w778 w777 w779 w780 w680 rfl rfl ⟨⟨by decide, by decide⟩, rfl⟩ ⟨(Nat.le_of_ble_eq_true rfl), (Nat.le_of_ble_eq_true rfl)⟩ rfl hl.1 rfl (Nat.le_of_ble_eq_true rfl) d_L_add_9ae_20 ⟨(Nat.le_of_ble_eq_true rfl), (Nat.le_of_ble_eq_true rfl)⟩) hP hD hS hA (fun u2 H locs hp9 hP hD hS => ?_)
  have hP : va_P D vwCl (LiW dA la (LI.s_el (LI.s_mc (LI.s_sz g (g.sz + 1)) (g.mc + 1)) (va_up g.el g.sz (some v))) ++ (ws)) H := hP
  have hD : va_D A (LiW dA la (LI.s_el (LI.s_mc (LI.s_sz g (g.sz + 1)) (g.mc + 1)) (va_up g.el g.sz (some v))) ++ (ws)) := hD
  refine lv_iconst (v := 1) hx hb d_L_add_9ae_23 (by decide) ?_
  exact rfZ hx hb hr (bI_nar true) hlk hS () rfl hP hD (Nat.le_of_ble_eq_true rfl) (Nat.le_of_ble_eq_true rfl) d_L_add_9ae_24
theorem w1457 : Cond.castable "SeriesVault$Step" "java/lang/Object" ∈ aW := aw_of (tb_11 (List.mem_of_getElem? (i := 109) rfl)) rfl
set_option maxHeartbeats 4000000 in
set_option maxRecDepth 100000 in
theorem v_Ladd3_E (l : Launch) (D : va_G) (dA : Nat → ClassId) (sz : Nat) (ws : va_W) (la : Nat → Nat) (g : LI) (v : Nat) (fs : List Value) (h1 : g.sz < g.eN) (hn : g.eN ≤ 65536) (mo : (v, .inr (13, fs)) ∈ ws) : Met l ⟨"java/util/ArrayList", "add", "(Ljava/lang/Object;[Ljava/lang/Object;I)V"⟩ [Cond.code ⟨"java/util/ArrayList", "add", "(Ljava/lang/Object;[Ljava/lang/Object;I)V"⟩ prog_37_method_24_code 4 none] { frames := 1, cells := 0, slots := 0, locals := 0 } (pC D dA [.ref (la 0), .ref v, .ref g.eA, .int (nI g.sz)] (LiW dA la g ++ (ws)) sz) (va_Qv (fun (u9 : Unit) => True) (fun (u9 : Unit) t9 => bW D (va_A (LiW dA la g ++ (ws)) sz) (LiW dA la (LI.s_el (LI.s_sz g (g.sz + 1)) (va_up g.el g.sz (some v))) ++ (ws)) t9) (va_A (LiW dA la g ++ (ws)) sz)) 0 0 (va_A (LiW dA la g ++ (ws)) sz) := by
  refine mkC (y := ⟨"java/util/ArrayList", "add", "(Ljava/lang/Object;[Ljava/lang/Object;I)V"⟩) (cc := prog_37_method_24_code) (maxL := 4) (av := [.ref (la 0), .ref v, .ref g.eA, .int (nI g.sz)]) (ws := LiW dA la g ++ (ws)) (sz := sz) (Qc := fun A => va_Qv (fun (u9 : Unit) => True) (fun (u9 : Unit) t9 => bW D A (LiW dA la (LI.s_el (LI.s_sz g (g.sz + 1)) (va_up g.el g.sz (some v))) ++ (ws)) t9) A) (by decide) (Nat.le_of_ble_eq_true rfl) ?_
  intro A p e s m below meth c ls hsz hB
  obtain ⟨hx, hb, hr, hml, hown, hin, hlk, hE, hK, hP, hD, hS, hA, hN, hl⟩ := hB
  have hown : s.vm.findClass "java/util/ArrayList" = some m.cls := hown
  have hl : lv_has ls 4 [(0, .ref (la 0)), (1, .ref v), (2, .ref g.eA), (3, .int (nI g.sz))] := hl
  obtain ⟨H, hH⟩ : ∃ z, z = s.heap := ⟨_, rfl⟩
  have hP : va_P D vwCl (LiW dA la g ++ (ws)) H := by rw [hH]; exact hP
  have hS : va_S A s.heap H [] := by rw [hH]; exact hS
  rw [← hH]
  refine lv_iload_n hx hb d_L_add_faf_0 rfl (lv_at hl 3 rfl) ?_
  refine lv_aload_n hx hb d_L_add_faf_1 rfl (lv_at hl 2 rfl) ?_
  refine va_alen (v := nI g.eN) hx hb hK hP (1) 7 rfl rfl rfl d_L_add_faf_2 ?_
  refine lv_icmp_ne hx hb d_L_add_faf_3 (tgt := 11) rfl (fun g1 => ?_) (fun g1 => ?_)
  rotate_left
  · have g1 := (nI_eq (a := g.sz) (b := g.eN) (by omega) (by omega)).mp g1; exfalso; omega
  have g1 := mt (nI_eq (a := g.sz) (b := g.eN) (by omega) (by omega)).mpr g1
  refine lv_aload_n hx hb d_L_add_faf_11 rfl (lv_at hl 2 rfl) ?_
  refine lv_iload_n hx hb d_L_add_faf_12 rfl (lv_at hl 3 rfl) ?_
  refine lv_aload_n hx hb d_L_add_faf_13 rfl (lv_at hl 1 rfl) ?_
  obtain ⟨qp2, ep3⟩ := List.getElem?_of_mem (show ((v, .inr (13, fs)) : Nat × va_E) ∈ LiW dA la g ++ (ws) from (List.mem_append_right _ mo))
  refine nqstO (E := "java/lang/Object") (r := ("SeriesVault$Step", TE, 8)) (f := g.el) (n := g.eN) hx hb hK hP hD hS (1) 7 (qp2) 13 rfl rfl (show va_Nw (.castable "SeriesVault$Step" "java/lang/Object") s from hE.1 _ w1457) ep3 rfl (g.sz) (by omega) (by omega) d_L_add_faf_14 (fun H locs hP hD hS => ?_)
  have hP : va_P D vwCl (LiW dA la (LI.s_el g (va_up g.el g.sz (some v))) ++ (ws)) H := hP
  have hD : va_D A (LiW dA la (LI.s_el g (va_up g.el g.sz (some v))) ++ (ws)) := hD
  refine lv_aload_n hx hb d_L_add_faf_15 rfl (lv_at hl 0 rfl) ?_
  refine lv_iload_n hx hb d_L_add_faf_16 rfl (lv_at hl 3 rfl) ?_
  refine lv_iconst (v := 1) hx hb d_L_add_faf_17 (by decide) ?_
  refine lv_iadd hx hb d_L_add_faf_18 (tpi (y := nI (g.sz + 1)) (nI_add (g.sz) (1)) ?_)
  refine pF (v := .int (nI (g.sz + 1))) hx hb hown hE hK hP hD hS 0 rfl rfl layL tyL tokL nmL 1 (by decide) w657 rfl rfl rfl (Nat.le_of_ble_eq_true rfl) d_L_add_faf_19 (fun H locs hP hD hS => ?_)
  have hP : va_P D vwCl (LiW dA la (LI.s_el (LI.s_sz g (g.sz + 1)) (va_up g.el g.sz (some v))) ++ (ws)) H := hP
  have hD : va_D A (LiW dA la (LI.s_el (LI.s_sz g (g.sz + 1)) (va_up g.el g.sz (some v))) ++ (ws)) := hD
  exact rfV hx hb hr hlk hS () trivial hP hD (Nat.le_of_ble_eq_true rfl) (Nat.le_of_ble_eq_true rfl) d_L_add_faf_22
set_option maxHeartbeats 4000000 in
set_option maxRecDepth 100000 in
theorem v_Ladd_E (l : Launch) (D : va_G) (dA : Nat → ClassId) (sz : Nat) (ws : va_W) (la : Nat → Nat) (g : LI) (v : Nat) (fs : List Value) (h1 : g.sz < g.eN) (hn : g.eN ≤ 65536) (mo : (v, .inr (13, fs)) ∈ ws) : Met l ⟨"java/util/ArrayList", "add", "(Ljava/lang/Object;)Z"⟩ [Cond.code ⟨"java/util/ArrayList", "add", "(Ljava/lang/Object;)Z"⟩ prog_37_method_25_code 2 (some FieldType.boolean)] { frames := 2, cells := 0, slots := 0, locals := 23 } (pC D dA [.ref (la 0), .ref v] (LiW dA la g ++ (ws)) sz) (va_Qi (fun (r9 : Int32) (u9 : Unit) => r9 = 1) (fun (u9 : Unit) t9 => bW D (va_A (LiW dA la g ++ (ws)) sz) (LiW dA la (LI.s_el (LI.s_mc (LI.s_sz g (g.sz + 1)) (g.mc + 1)) (va_up g.el g.sz (some v))) ++ (ws)) t9) (va_A (LiW dA la g ++ (ws)) sz)) 0 0 (va_A (LiW dA la g ++ (ws)) sz) := by
  refine mkC (y := ⟨"java/util/ArrayList", "add", "(Ljava/lang/Object;)Z"⟩) (cc := prog_37_method_25_code) (maxL := 2) (av := [.ref (la 0), .ref v]) (ws := LiW dA la g ++ (ws)) (sz := sz) (Qc := fun A => va_Qi (fun (r9 : Int32) (u9 : Unit) => r9 = 1) (fun (u9 : Unit) t9 => bW D A (LiW dA la (LI.s_el (LI.s_mc (LI.s_sz g (g.sz + 1)) (g.mc + 1)) (va_up g.el g.sz (some v))) ++ (ws)) t9) A) (by decide) (Nat.le_of_ble_eq_true rfl) ?_
  intro A p e s m below meth c ls hsz hB
  obtain ⟨hx, hb, hr, hml, hown, hin, hlk, hE, hK, hP, hD, hS, hA, hN, hl⟩ := hB
  have hown : s.vm.findClass "java/util/ArrayList" = some m.cls := hown
  have hl : lv_has ls 2 [(0, .ref (la 0)), (1, .ref v)] := hl
  obtain ⟨H, hH⟩ : ∃ z, z = s.heap := ⟨_, rfl⟩
  have hP : va_P D vwCl (LiW dA la g ++ (ws)) H := by rw [hH]; exact hP
  have hS : va_S A s.heap H [] := by rw [hH]; exact hS
  rw [← hH]
  refine lv_aload_n hx hb d_L_add_9ae_0 rfl (lv_at hl 0 rfl) ?_
  refine lv_dup hx hb d_L_add_9ae_1 rfl ?_
  refine gFU (v := .int g.mc) hx hb hown hE hK hP 0 rfl rfl layL 2 (by decide) w654 w655 rfl d_L_add_9ae_2 ?_
  refine lv_iconst (v := 1) hx hb d_L_add_9ae_5 (by decide) ?_
  refine lv_iadd hx hb d_L_add_9ae_6 ?_
  refine pFU (v := .int (g.mc + 1)) hx hb hown hE hK hP hD hS 0 rfl rfl layL tyL tokL nmL 2 (by decide) w654 w655 rfl rfl rfl (Nat.le_of_ble_eq_true rfl) d_L_add_9ae_7 (fun H locs hP hD hS => ?_)
  have hP : va_P D vwCl (LiW dA la (LI.s_mc g (g.mc + 1)) ++ (ws)) H := hP
  have hD : va_D A (LiW dA la (LI.s_mc g (g.mc + 1)) ++ (ws)) := hD
  refine lv_aload_n hx hb d_L_add_9ae_10 rfl (lv_at hl 0 rfl) ?_
  refine lv_aload_n hx hb d_L_add_9ae_11 rfl (lv_at hl 1 rfl) ?_
  refine lv_aload_n hx hb d_L_add_9ae_12 rfl (lv_at hl 0 rfl) ?_
  refine gF (v := .ref g.eA) hx hb hown hE hK hP 0 rfl rfl layL 0 (by decide) w656 rfl d_L_add_9ae_13 ?_
  refine lv_aload_n hx hb d_L_add_9ae_16 rfl (lv_at hl 0 rfl) ?_
  refine gF (v := .int (nI g.sz)) hx hb hown hE hK hP 0 rfl rfl layL 1 (by decide) w657 rfl d_L_add_9ae_17 ?_
  refine jkV (wr := []) (rnV (As := [.ref v, .ref g.eA, .int (nI g.sz)]) (rest := []) hx hb hml hown hE hK (hN _ _ hS) hP hD (v_Ladd3_E l D dA H.size ws la (LI.s_mc g (g.mc + 1)) v fs (show g.sz < g.eN from by omega) (show g.eN ≤ 65536 from by omega) mo) (q0 := 0) rfl rfl w778 w777 w779 w780 w680 rfl rfl ⟨⟨by decide, by decide⟩, rfl⟩ ⟨(Nat.le_of_ble_eq_true rfl), (Nat.le_of_ble_eq_true rfl)⟩ rfl hl.1 rfl (Nat.le_of_ble_eq_true rfl) d_L_add_9ae_20 ⟨(Nat.le_of_ble_eq_true rfl), (Nat.le_of_ble_eq_true rfl)⟩) hP hD hS hA (fun u2 H locs hp9 hP hD hS => ?_)
  have hP : va_P D vwCl (LiW dA la (LI.s_el (LI.s_mc (LI.s_sz g (g.sz + 1)) (g.mc + 1)) (va_up g.el g.sz (some v))) ++ (ws)) H := hP
  have hD : va_D A (LiW dA la (LI.s_el (LI.s_mc (LI.s_sz g (g.sz + 1)) (g.mc + 1)) (va_up g.el g.sz (some v))) ++ (ws)) := hD
  refine lv_iconst (v := 1) hx hb d_L_add_9ae_23 (by decide) ?_
  exact rfZ hx hb hr (bI_nar true) hlk hS () rfl hP hD (Nat.le_of_ble_eq_true rfl) (Nat.le_of_ble_eq_true rfl) d_L_add_9ae_24
set_option maxHeartbeats 4000000 in
set_option maxRecDepth 100000 in
theorem v_Ladd3_T (l : Launch) (D : va_G) (dA : Nat → ClassId) (sz : Nat) (ws : va_W) (la : Nat → Nat) (g : LI) (v : Nat) (fs : List Value) (h1 : g.sz < g.eN) (hn : g.eN ≤ 65536) (mo : (v, .inr (8, fs)) ∈ ws) : Met l ⟨"java/util/ArrayList", "add", "(Ljava/lang/Object;[Ljava/lang/Object;I)V"⟩ [Cond.code ⟨"java/util/ArrayList", "add", "(Ljava/lang/Object;[Ljava/lang/Object;I)V"⟩ prog_37_method_24_code 4 none] { frames := 1, cells := 0, slots := 0, locals := 0 } (pC D dA [.ref (la 0), .ref v, .ref g.eA, .int (nI g.sz)] (LiW dA la g ++ (ws)) sz) (va_Qv (fun (u9 : Unit) => True) (fun (u9 : Unit) t9 => bW D (va_A (LiW dA la g ++ (ws)) sz) (LiW dA la (LI.s_el (LI.s_sz g (g.sz + 1)) (va_up g.el g.sz (some v))) ++ (ws)) t9) (va_A (LiW dA la g ++ (ws)) sz)) 0 0 (va_A (LiW dA la g ++ (ws)) sz) := by
  refine mkC (y := ⟨"java/util/ArrayList", "add", "(Ljava/lang/Object;[Ljava/lang/Object;I)V"⟩) (cc := prog_37_method_24_code) (maxL := 4) (av := [.ref (la 0), .ref v, .ref g.eA, .int (nI g.sz)]) (ws := LiW dA la g ++ (ws)) (sz := sz) (Qc := fun A => va_Qv (fun (u9 : Unit) => True) (fun (u9 : Unit) t9 => bW D A (LiW dA la (LI.s_el (LI.s_sz g (g.sz + 1)) (va_up g.el g.sz (some v))) ++ (ws)) t9) A) (by decide) (Nat.le_of_ble_eq_true rfl) ?_
  intro A p e s m below meth c ls hsz hB
  obtain ⟨hx, hb, hr, hml, hown, hin, hlk, hE, hK, hP, hD, hS, hA, hN, hl⟩ := hB
  have hown : s.vm.findClass "java/util/ArrayList" = some m.cls := hown
  have hl : lv_has ls 4 [(0, .ref (la 0)), (1, .ref v), (2, .ref g.eA), (3, .int (nI g.sz))] := hl
  obtain ⟨H, hH⟩ : ∃ z, z = s.heap := ⟨_, rfl⟩
  have hP : va_P D vwCl (LiW dA la g ++ (ws)) H := by rw [hH]; exact hP
  have hS : va_S A s.heap H [] := by rw [hH]; exact hS
  rw [← hH]
  refine lv_iload_n hx hb d_L_add_faf_0 rfl (lv_at hl 3 rfl) ?_
  refine lv_aload_n hx hb d_L_add_faf_1 rfl (lv_at hl 2 rfl) ?_
  refine va_alen (v := nI g.eN) hx hb hK hP (1) 7 rfl rfl rfl d_L_add_faf_2 ?_
  refine lv_icmp_ne hx hb d_L_add_faf_3 (tgt := 11) rfl (fun g1 => ?_) (fun g1 => ?_)
  rotate_left
  · have g1 := (nI_eq (a := g.sz) (b := g.eN) (by omega) (by omega)).mp g1; exfalso; omega
  have g1 := mt (nI_eq (a := g.sz) (b := g.eN) (by omega) (by omega)).mpr g1
  refine lv_aload_n hx hb d_L_add_faf_11 rfl (lv_at hl 2 rfl) ?_
  refine lv_iload_n hx hb d_L_add_faf_12 rfl (lv_at hl 3 rfl) ?_
  refine lv_aload_n hx hb d_L_add_faf_13 rfl (lv_at hl 1 rfl) ?_
  obtain ⟨qp2, ep3⟩ := List.getElem?_of_mem (show ((v, .inr (8, fs)) : Nat × va_E) ∈ LiW dA la g ++ (ws) from (List.mem_append_right _ mo))
  refine nqstO (E := "java/lang/Object") (r := ("SeriesVault$Table", TT, 7)) (f := g.el) (n := g.eN) hx hb hK hP hD hS (1) 7 (qp2) 8 rfl rfl (show va_Nw (.castable "SeriesVault$Table" "java/lang/Object") s from hE.1 _ w776) ep3 rfl (g.sz) (by omega) (by omega) d_L_add_faf_14 (fun H locs hP hD hS => ?_)
  have hP : va_P D vwCl (LiW dA la (LI.s_el g (va_up g.el g.sz (some v))) ++ (ws)) H := hP
  have hD : va_D A (LiW dA la (LI.s_el g (va_up g.el g.sz (some v))) ++ (ws)) := hD
  refine lv_aload_n hx hb d_L_add_faf_15 rfl (lv_at hl 0 rfl) ?_
  refine lv_iload_n hx hb d_L_add_faf_16 rfl (lv_at hl 3 rfl) ?_
  refine lv_iconst (v := 1) hx hb d_L_add_faf_17 (by decide) ?_
  refine lv_iadd hx hb d_L_add_faf_18 (tpi (y := nI (g.sz + 1)) (nI_add (g.sz) (1)) ?_)
  refine pF (v := .int (nI (g.sz + 1))) hx hb hown hE hK hP hD hS 0 rfl rfl layL tyL tokL nmL 1 (by decide) w657 rfl rfl rfl (Nat.le_of_ble_eq_true rfl) d_L_add_faf_19 (fun H locs hP hD hS => ?_)
  have hP : va_P D vwCl (LiW dA la (LI.s_el (LI.s_sz g (g.sz + 1)) (va_up g.el g.sz (some v))) ++ (ws)) H := hP
  have hD : va_D A (LiW dA la (LI.s_el (LI.s_sz g (g.sz + 1)) (va_up g.el g.sz (some v))) ++ (ws)) := hD
  exact rfV hx hb hr hlk hS () trivial hP hD (Nat.le_of_ble_eq_true rfl) (Nat.le_of_ble_eq_true rfl) d_L_add_faf_22
set_option maxHeartbeats 4000000 in
set_option maxRecDepth 100000 in
theorem v_Ladd_T (l : Launch) (D : va_G) (dA : Nat → ClassId) (sz : Nat) (ws : va_W) (la : Nat → Nat) (g : LI) (v : Nat) (fs : List Value) (h1 : g.sz < g.eN) (hn : g.eN ≤ 65536) (mo : (v, .inr (8, fs)) ∈ ws) : Met l ⟨"java/util/ArrayList", "add", "(Ljava/lang/Object;)Z"⟩ [Cond.code ⟨"java/util/ArrayList", "add", "(Ljava/lang/Object;)Z"⟩ prog_37_method_25_code 2 (some FieldType.boolean)] { frames := 2, cells := 0, slots := 0, locals := 23 } (pC D dA [.ref (la 0), .ref v] (LiW dA la g ++ (ws)) sz) (va_Qi (fun (r9 : Int32) (u9 : Unit) => r9 = 1) (fun (u9 : Unit) t9 => bW D (va_A (LiW dA la g ++ (ws)) sz) (LiW dA la (LI.s_el (LI.s_mc (LI.s_sz g (g.sz + 1)) (g.mc + 1)) (va_up g.el g.sz (some v))) ++ (ws)) t9) (va_A (LiW dA la g ++ (ws)) sz)) 0 0 (va_A (LiW dA la g ++ (ws)) sz) := by
  refine mkC (y := ⟨"java/util/ArrayList", "add", "(Ljava/lang/Object;)Z"⟩) (cc := prog_37_method_25_code) (maxL := 2) (av := [.ref (la 0), .ref v]) (ws := LiW dA la g ++ (ws)) (sz := sz) (Qc := fun A => va_Qi (fun (r9 : Int32) (u9 : Unit) => r9 = 1) (fun (u9 : Unit) t9 => bW D A (LiW dA la (LI.s_el (LI.s_mc (LI.s_sz g (g.sz + 1)) (g.mc + 1)) (va_up g.el g.sz (some v))) ++ (ws)) t9) A) (by decide) (Nat.le_of_ble_eq_true rfl) ?_
  intro A p e s m below meth c ls hsz hB
  obtain ⟨hx, hb, hr, hml, hown, hin, hlk, hE, hK, hP, hD, hS, hA, hN, hl⟩ := hB
  have hown : s.vm.findClass "java/util/ArrayList" = some m.cls := hown
  have hl : lv_has ls 2 [(0, .ref (la 0)), (1, .ref v)] := hl
  obtain ⟨H, hH⟩ : ∃ z, z = s.heap := ⟨_, rfl⟩
  have hP : va_P D vwCl (LiW dA la g ++ (ws)) H := by rw [hH]; exact hP
  have hS : va_S A s.heap H [] := by rw [hH]; exact hS
  rw [← hH]
  refine lv_aload_n hx hb d_L_add_9ae_0 rfl (lv_at hl 0 rfl) ?_
  refine lv_dup hx hb d_L_add_9ae_1 rfl ?_
  refine gFU (v := .int g.mc) hx hb hown hE hK hP 0 rfl rfl layL 2 (by decide) w654 w655 rfl d_L_add_9ae_2 ?_
  refine lv_iconst (v := 1) hx hb d_L_add_9ae_5 (by decide) ?_
  refine lv_iadd hx hb d_L_add_9ae_6 ?_
  refine pFU (v := .int (g.mc + 1)) hx hb hown hE hK hP hD hS 0 rfl rfl layL tyL tokL nmL 2 (by decide) w654 w655 rfl rfl rfl (Nat.le_of_ble_eq_true rfl) d_L_add_9ae_7 (fun H locs hP hD hS => ?_)
  have hP : va_P D vwCl (LiW dA la (LI.s_mc g (g.mc + 1)) ++ (ws)) H := hP
  have hD : va_D A (LiW dA la (LI.s_mc g (g.mc + 1)) ++ (ws)) := hD
  refine lv_aload_n hx hb d_L_add_9ae_10 rfl (lv_at hl 0 rfl) ?_
  refine lv_aload_n hx hb d_L_add_9ae_11 rfl (lv_at hl 1 rfl) ?_
  refine lv_aload_n hx hb d_L_add_9ae_12 rfl (lv_at hl 0 rfl) ?_
  refine gF (v := .ref g.eA) hx hb hown hE hK hP 0 rfl rfl layL 0 (by decide) w656 rfl d_L_add_9ae_13 ?_
  refine lv_aload_n hx hb d_L_add_9ae_16 rfl (lv_at hl 0 rfl) ?_
  refine gF (v := .int (nI g.sz)) hx hb hown hE hK hP 0 rfl rfl layL 1 (by decide) w657 rfl d_L_add_9ae_17 ?_
  refine jkV (wr := []) (rnV (As := [.ref v, .ref g.eA, .int (nI g.sz)]) (rest := []) hx hb hml hown hE hK (hN _ _ hS) hP hD (v_Ladd3_T l D dA H.size ws la (LI.s_mc g (g.mc + 1)) v fs (show g.sz < g.eN from by omega) (show g.eN ≤ 65536 from by omega) mo) (q0 := 0) rfl rfl w778 w777 w779 w780 w680 rfl rfl ⟨⟨by decide, by decide⟩, rfl⟩ ⟨(Nat.le_of_ble_eq_true rfl), (Nat.le_of_ble_eq_true rfl)⟩ rfl hl.1 rfl (Nat.le_of_ble_eq_true rfl) d_L_add_9ae_20 ⟨(Nat.le_of_ble_eq_true rfl), (Nat.le_of_ble_eq_true rfl)⟩) hP hD hS hA (fun u2 H locs hp9 hP hD hS => ?_)
  have hP : va_P D vwCl (LiW dA la (LI.s_el (LI.s_mc (LI.s_sz g (g.sz + 1)) (g.mc + 1)) (va_up g.el g.sz (some v))) ++ (ws)) H := hP
  have hD : va_D A (LiW dA la (LI.s_el (LI.s_mc (LI.s_sz g (g.sz + 1)) (g.mc + 1)) (va_up g.el g.sz (some v))) ++ (ws)) := hD
  refine lv_iconst (v := 1) hx hb d_L_add_9ae_23 (by decide) ?_
  exact rfZ hx hb hr (bI_nar true) hlk hS () rfl hP hD (Nat.le_of_ble_eq_true rfl) (Nat.le_of_ble_eq_true rfl) d_L_add_9ae_24
end
section
/-! Methods that read java.util.ArrayList's shared empty array, or copy an array of objects: e0 and the Class object mi of Object[] go along. -/
def pCy (D : va_G) (dA : Nat → ClassId) (e0 mi : Nat) (av : List Value) (ws : va_W) (sz : Nat) : Array Value → State → Prop := fun a U => pCz D dA e0 av ws sz a U ∧ va_Mi "[Ljava/lang/Object;" mi U
theorem pCy_blind {D : va_G} {dA : Nat → ClassId} {e0 mi : Nat} {av : List Value} {ws : va_W} {sz : Nat} : FrameBlind (pCy D dA e0 mi av ws sz) := by
  intro a U g mk q
  exact ⟨pCz_blind a U g mk q.1, va_Mi.moved (u := U) (U := U.calling g mk a) (Vm.Alike.refl U.vm) q.2⟩
section RY
variable {p : Program} {l : Launch} {e : Env} {R : Room} {s : State} {m : MethodId} {args : Array Value} {below : List Frame} {meth : Method} {c : Code} {H : Heap} {locs : List Loc} {cells slots : Nat} {Q : State → Prop}
variable {D : va_G} {dA : Nat → ClassId} {A : Nat → Prop} {cc : ByteArray} {pc : Nat} {ls : Array Slot} {rest st0 : List Value} {ws wc wr : va_W} {e0 mi a : Nat}
theorem pre_y {av : List Value} (hE : eV s) (hK : va_K D vwCl (arT dA) s) (hZ : zZ e0 A s s.heap) (hT : zT e0 A s s.heap) (hMi : va_Mi "[Ljava/lang/Object;" mi s) (hS : va_S A s.heap H locs) (hN : sK s.heap H) (hP : va_P D vwCl wc H) (hD : va_D A wc) : ∀ U : State, U.heap = H → s.WarmedH U.vm → pCy D dA e0 mi av wc H.size av.toArray U := by
  intro U hU hW
  exact ⟨pre_z hE hK hZ hT hS hN hP hD U hU hW, va_Mi.moved (u := s) (U := U) hW.alike hMi⟩
theorem rnVy {y : MethodName} {bytes : ByteArray} {maxL mc ms n index nL : Nat} {ret : Option FieldType} {rm : Room} {Qc : Array Value → State → Outcome → State → Prop} {free : Addr → Prop} {own C : String} {T : u_T} {N ci q0 : Nat} {fs : List Value} {b : Nat} {As : List Value}
    (hx : p.tables.exec = Jvm.exec) (hb : c.code = cc) (hml : c.maxLocals = nL) (hown : s.vm.findClass own = some m.cls) (hE : eV s) (hK : va_K D vwCl (arT dA) s) (hZ : zZ e0 A s s.heap) (hT : zT e0 A s s.heap) (hMi : va_Mi "[Ljava/lang/Object;" mi s) (hS : va_S A s.heap H locs) (hN : sK s.heap H) (hP : va_P D vwCl wc H) (hD : va_D A wc)
    (hM : Met l y [Cond.code y bytes maxL ret] rm (pCy D dA e0 mi (.ref b :: As) wc H.size) Qc mc ms free) (he : wc[q0]? = some (b, .inr (ci, fs))) (hcl : vwCl[ci]? = some (C, T, N))
    (hc : Cond.code y bytes maxL ret ∈ aW) (hl : Cond.methodLink own index y ∈ aW) (hi : Cond.instanceMethod y ∈ aW) (hse : Cond.selects C y y ∈ aW) (hini : Cond.initialized y.cls ∈ aW) (hrc : rm.cells = mc) (hrs : rm.slots = ms)
    (hd : (y.cls ≠ "java/lang/invoke/MethodHandle" ∧ y.cls ≠ "java/lang/invoke/VarHandle") ∧ (parseMethodDescriptor y.desc).map (fun d => d.parameters.length) = some n) (hR : rm.frames + 1 ≤ R.frames ∧ 8 + (maxL + 11) + rm.locals ≤ R.locals)
    (hn : As.length = n) (hsize : ls.size = nL) (hst : st0 = As.reverse ++ .ref b :: rest) (hW : (rest.map fun v => v.category).sum ≤ 8) (hdg : decode cc pc = .ok (.invokevirtual index, 3)) (hf : cells + mc ≤ R.cells ∧ slots + ms ≤ R.slots) :
    va_Run p l e R s m args below meth c H locs cells slots mc ms (F0 m pc ls st0) rest (Qc (Value.ref b :: As).toArray) free :=
  va_runV (Ts := []) ⟨hx, hb, hml, hown, fun _ h => nomatch h⟩ hM ⟨cB_1 hE hc hl hini hrc hrs hd hR, hE.t hi rfl, hE.t hse rfl⟩ ⟨pCy_blind, va_recv hK hP hcl he, pre_y hE hK hZ hT hMi hS hN hP hD⟩ rfl hn hsize hst (lv_room hW) hdg hf
theorem rnIy {y : MethodName} {bytes : ByteArray} {maxL mc ms n index nL : Nat} {rm : Room} {Qc : Array Value → State → Outcome → State → Prop} {free : Addr → Prop} {own : String} {b : Nat} {As : List Value}
    (hx : p.tables.exec = Jvm.exec) (hb : c.code = cc) (hml : c.maxLocals = nL) (hown : s.vm.findClass own = some m.cls) (hE : eV s) (hK : va_K D vwCl (arT dA) s) (hZ : zZ e0 A s s.heap) (hT : zT e0 A s s.heap) (hMi : va_Mi "[Ljava/lang/Object;" mi s) (hS : va_S A s.heap H locs) (hN : sK s.heap H) (hP : va_P D vwCl wc H) (hD : va_D A wc)
    (hM : Met l y [Cond.code y bytes maxL none] rm (pCy D dA e0 mi (.ref b :: As) wc H.size) Qc mc ms free)
    (hc : Cond.code y bytes maxL none ∈ aW) (hl : Cond.methodLink own index y ∈ aW) (hi : Cond.instanceMethod y ∈ aW) (hini : Cond.initialized y.cls ∈ aW) (hy : y.name = "<init>") (hrc : rm.cells = mc) (hrs : rm.slots = ms)
    (hd : (y.cls ≠ "java/lang/invoke/MethodHandle" ∧ y.cls ≠ "java/lang/invoke/VarHandle") ∧ (parseMethodDescriptor y.desc).map (fun d => d.parameters.length) = some n) (hR : rm.frames + 1 ≤ R.frames ∧ 8 + (maxL + 11) + rm.locals ≤ R.locals)
    (hn : As.length = n) (hsize : ls.size = nL) (hst : st0 = As.reverse ++ .ref b :: rest) (hW : (rest.map fun v => v.category).sum ≤ 8) (hdg : decode cc pc = .ok (.invokespecial index, 3)) (hf : cells + mc ≤ R.cells ∧ slots + ms ≤ R.slots) :
    va_Run p l e R s m args below meth c H locs cells slots mc ms (F0 m pc ls st0) rest (Qc (Value.ref b :: As).toArray) free :=
  va_runI (Ts := []) ⟨hx, hb, hml, hown, fun _ h => nomatch h⟩ hM ⟨cB_1 hE hc hl hini hrc hrs hd hR, hy, hE.t hi rfl⟩ ⟨pCy_blind, pre_y hE hK hZ hT hMi hS hN hP hD⟩ rfl hn hsize hst (lv_room hW) hdg hf
theorem rnSy {y : MethodName} {bytes : ByteArray} {maxL mc ms n index nL : Nat} {ret : Option FieldType} {rm : Room} {Qc : Array Value → State → Outcome → State → Prop} {free : Addr → Prop} {own : String} {As : List Value}
    (hx : p.tables.exec = Jvm.exec) (hb : c.code = cc) (hml : c.maxLocals = nL) (hown : s.vm.findClass own = some m.cls) (hE : eV s) (hK : va_K D vwCl (arT dA) s) (hZ : zZ e0 A s s.heap) (hT : zT e0 A s s.heap) (hMi : va_Mi "[Ljava/lang/Object;" mi s) (hS : va_S A s.heap H locs) (hN : sK s.heap H) (hP : va_P D vwCl wc H) (hD : va_D A wc)
    (hM : Met l y [Cond.code y bytes maxL ret] rm (pCy D dA e0 mi As wc H.size) Qc mc ms free)
    (hc : Cond.code y bytes maxL ret ∈ aW) (hl : Cond.methodLink own index y ∈ aW) (hstat : Cond.static y ∈ aW) (hini : Cond.initialized y.cls ∈ aW) (hrc : rm.cells = mc) (hrs : rm.slots = ms)
    (hd : (y.cls ≠ "java/lang/invoke/MethodHandle" ∧ y.cls ≠ "java/lang/invoke/VarHandle") ∧ (parseMethodDescriptor y.desc).map (fun d => d.parameters.length) = some n) (hR : rm.frames + 1 ≤ R.frames ∧ 8 + (maxL + 11) + rm.locals ≤ R.locals)
    (hn : As.length = n) (hsize : ls.size = nL) (hst : st0 = As.reverse ++ rest) (hW : (rest.map fun v => v.category).sum ≤ 8) (hdg : decode cc pc = .ok (.invokestatic index, 3)) (hf : cells + mc ≤ R.cells ∧ slots + ms ≤ R.slots) :
    va_Run p l e R s m args below meth c H locs cells slots mc ms (F0 m pc ls st0) rest (Qc As.toArray) free :=
  va_runS (Ts := []) ⟨hx, hb, hml, hown, fun _ h => nomatch h⟩ hM ⟨cB_1 hE hc hl hini hrc hrs hd hR, hE.t hstat rfl⟩ ⟨pCy_blind, pre_y hE hK hZ hT hMi hS hN hP hD⟩ rfl hn hsize hst (lv_room hW) hdg hf
/-- getClass() of an array of objects -/
theorem ngetC (hx : p.tables.exec = Jvm.exec) (hb : c.code = cc) (hml : c.maxLocals = ls.size) {own : String} {index : Nat} (hown : s.vm.findClass own = some m.cls) (hE : eV s) (w1 : Cond.methodLink own index ⟨"java/lang/Object", "getClass", "()Ljava/lang/Class;"⟩ ∈ aW) (w2 : Cond.declares ⟨"java/lang/Object", "getClass", "()Ljava/lang/Class;"⟩ ∈ aW) (w3 : Cond.selects "[Ljava/lang/Object;" ⟨"java/lang/Object", "getClass", "()Ljava/lang/Class;"⟩ ⟨"java/lang/Object", "getClass", "()Ljava/lang/Class;"⟩ ∈ aW) (w4 : Cond.instanceMethod ⟨"java/lang/Object", "getClass", "()Ljava/lang/Class;"⟩ ∈ aW) (w5 : Cond.native ⟨"java/lang/Object", "getClass", "()Ljava/lang/Class;"⟩ ∈ aW)
    (hMi : va_Mi "[Ljava/lang/Object;" mi s) (hK : va_K D vwCl (arT dA) s) (hP : va_P D vwCl ws H) (q0 : Nat) {x : vp_A} (ha : ws[q0]? = some (a, .inl (dA 7, x))) (hframes : 1 ≤ R.frames) (hlocals : (rest.map fun v => v.category).sum + 14 ≤ R.locals) (hdg : decode cc pc = .ok (.invokevirtual index, 3))
    (k : W p l e R s m args below meth c H locs cells slots Q (F0 m (pc + 3) ls (.ref mi :: rest))) : W p l e R s m args below meth c H locs cells slots Q (F0 m pc ls (.ref a :: rest)) := by
  have hvm0 : (vp_cell (dA 7) x).vm = .none := by
    obtain ⟨n, f | f | f | f | f⟩ := x <;> rfl
  have hcl0 : (vp_cell (dA 7) x).cls = dA 7 := by
    obtain ⟨n, f | f | f | f | f⟩ := x <;> rfl
  exact va_getC hx hb hml hown (hE.t w1 rfl) (hE.t w2 rfl) (hE.t w3 rfl) (hE.t w4 rfl) (hE.t w5 rfl) hMi ⟨_, hP q0 _ ha, by rw [hvm0]; rfl, by rw [hcl0]; exact va_nmO (hK.2 7 _ rfl).2 (by decide)⟩ hframes hlocals hdg k
theorem ncpyO (hexec : p.tables.exec = Jvm.exec) (hb : c.code = cc) (hml : c.maxLocals = ls.size) {own : String} {index : Nat} (hown : s.vm.findClass own = some m.cls) (hlink : (Cond.methodLink own index arraycopyName).before args s = true) (hnat : (Cond.native arraycopyName).before args s = true) (hstat : (Cond.static arraycopyName).before args s = true) (hini : (Cond.initialized "java/lang/System").before args s = true)
    (hK : va_K D vwCl (arT dA) s) (hP : va_P D vwCl ws H) (hD : va_D A ws) (hS : va_S A s.heap H locs) (q0 q1 t0 ci : Nat) {a0 : Nat} {c0 : ClassId} {n0 n1 : Nat} {f g : Nat → Option Nat} {E : String} {r : vw_C} (hca : va_Nw (.castable r.1 E) s) (ha0 : ws[q0]? = some (a0, .inl (c0, n0, .inr (.inr (.inr (.inr f)))))) (ha1 : ws[q1]? = some (a, .inl (c0, n1, .inr (.inr (.inr (.inr g)))))) (ht0 : (arT dA)[t0]? = some (c0, .object E)) (hc : vwCl[ci]? = some r)
    (sp dp n : Nat) (h1 : sp < 2 ^ 31) (h2 : dp < 2 ^ 31) (h3 : n < 2 ^ 31) (h4 : sp + n ≤ n0) (h5 : dp + n ≤ n1) (hel : ∀ i : Nat, i < n → ∀ y : Nat, f (sp + i) = some y → ∃ vs : List Value, (y, .inr (ci, vs)) ∈ ws)
    (hframes : 1 ≤ R.frames) (hlocals : (rest.map fun v => v.category).sum + (nativeFrameWords "java/lang/System" "arraycopy" 5 + 11) ≤ R.locals) (hdg : decode cc pc = .ok (.invokestatic index, 3))
    (kk : ∀ (H1 : Heap) (locs1 : List Loc), va_P D vwCl (ws.set q1 (a, .inl (c0, n1, .inr (.inr (.inr (.inr (va_cpy f g sp dp n))))))) H1 → va_D A (ws.set q1 (a, .inl (c0, n1, .inr (.inr (.inr (.inr (va_cpy f g sp dp n))))))) → va_S A s.heap H1 locs1 → W p l e R s m args below meth c H1 locs1 cells slots Q (F0 m (pc + 3) ls rest)) : W p l e R s m args below meth c H locs cells slots Q (F0 m pc ls (.int (nI n) :: .int (nI dp) :: .ref a :: .int (nI sp) :: .ref a0 :: rest)) := by
  have hcls := (hK.1 ci r hc).2
  refine va_copyq (C := r.1) hexec hb hml hown hlink hnat hstat hini hK hP hD hS q0 q1 t0 t0 ha0 ha1 ht0 ht0 (nI_pos h1) (nI_pos h2) (nI_pos h3) ?_ ?_ ?_ ?_ hframes hlocals hdg ?_
  · rw [nI_clamp h1, nI_clamp h3]; exact h4
  · rw [nI_clamp h2, nI_clamp h3]; exact h5
  · rw [nI_clamp h1, nI_clamp h3]
    intro i hi y hy
    obtain ⟨vs, hm⟩ := hel i hi y hy
    obtain ⟨k, hk⟩ := List.getElem?_of_mem hm
    obtain ⟨r', hr', cellV, g1, g2, g3, -⟩ := hP k _ hk
    exact ⟨cellV, g1, by rw [g3]; rfl, by rw [g2]; exact hcls.1⟩
  · intro comp c9 e1 e2
    obtain ⟨c3, t3, f1, f2, f3⟩ := Cond.castable_spec (va_Nw.use (A := args) rfl hca)
    cases f1.symm.trans e2
    cases f2.symm.trans e1
    exact f3
  · rw [nI_clamp h1, nI_clamp h2, nI_clamp h3]; exact kk
end RY
theorem mkY {l : Launch} {y : MethodName} {cc : ByteArray} {maxL : Nat} {ret : Option FieldType} {rm : Room} {D : va_G} {dA : Nat → ClassId} {e0 mi : Nat} {av : List Value} {ws : va_W} {sz mc ms : Nat} {Qc : (Nat → Prop) → Array Value → State → Outcome → State → Prop}
    (hy : plainName y.cls = true) (hlen : (lg_sl av).length ≤ maxL)
    (body : ∀ (A : Nat → Prop) (p : Program) (e : Env) (s : State) (m : MethodId) (below : List Frame) (meth : Method) (c : Code) (ls : Array Slot), s.heap.size = sz → zZ e0 A s s.heap → zT e0 A s s.heap → va_Mi "[Ljava/lang/Object;" mi s → bS p s m meth c cc ret maxL y D dA ws A av ls →
      W p l e rm s m av.toArray below meth c s.heap [] 0 0 (MQ below (Qc A) av.toArray s mc ms A) (F0 m 0 ls [])) :
    Met l y [Cond.code y cc maxL ret] rm (pCy D dA e0 mi av ws sz) (Qc (va_A ws sz)) mc ms (va_A ws sz) := by
  refine Met.ofW (cc := cc) (maxL := maxL) (ret := ret) hy rfl ?_
  intro p e s m args below meth c s₁ B hml hv
  obtain ⟨⟨⟨rfl, hsz, hP, hK, hD0, hE⟩, hZ, hT, hn⟩, hMi⟩ := hv
  have hA : ∀ q : Nat, s.heap.size ≤ q → va_A ws sz q := fun q h => by rw [← hsz]; exact Or.inr h
  have hl := lv_entry av (n := maxL) hlen
  rw [lg_entry_eq]
  exact body (va_A ws sz) p e s m below meth c _ hsz (zZ_in hP hsz hZ) (zT_in hn hT) hMi ⟨B.exec, B.bytes, B.returns, hml, findClass_of_methodNamed B.named, (name_of_methodNamed B.named B.method).1, B.notSynchronized, hE, hK, hP, hD0.self, va_S.rf, hA, fun H L h => by subst hsz; exact sK_of hP h, hl⟩
/-- the first k of an array, and none behind -/
def cpF (f : Nat → Option Nat) (k : Nat) : Nat → Option Nat := fun q => if q < k then f q else none
theorem cpF_e {f : Nat → Option Nat} {k n : Nat} (h : k ≤ n) : va_cpy f (fun _ => none) 0 0 (min k n) = cpF f k := by
  funext q
  unfold va_cpy cpF
  rw [Nat.min_eq_left h]
  by_cases e : q < k
  · rw [if_pos (by omega), if_pos e, Nat.zero_add, Nat.sub_zero]
  · rw [if_neg (by omega), if_neg e]
theorem sar_nI {a : Nat} (h : a < 2 ^ 31) : nI a >>> ((1 : Int32) &&& 31) = nI (a / 2) := by
  rw [show ((1 : Int32) &&& 31) = 1 by decide]
  apply Int32.toBitVec_inj.mp
  rw [Int32.toBitVec_shiftRight]
  show (BitVec.ofNat 32 a).sshiftRight' ((1#32).smod 32#32) = BitVec.ofNat 32 (a / 2)
  rw [show (1#32).smod 32#32 = 1#32 by decide]
  show (BitVec.ofNat 32 a).sshiftRight 1 = _
  have h1 : (BitVec.ofNat 32 a).toNat = a := by rw [BitVec.toNat_ofNat]; omega
  have h2 : (BitVec.ofNat 32 a).msb = false := by rw [BitVec.msb_eq_decide, h1]; simp; omega
  apply BitVec.eq_of_toNat_eq
  rw [BitVec.sshiftRight_eq_of_msb_false h2, BitVec.toNat_ushiftRight, h1, BitVec.toNat_ofNat, Nat.shiftRight_eq_div_pow]
  omega
set_option maxHeartbeats 4000000 in
set_option maxRecDepth 100000 in
theorem v_ACinit (l : Launch) (D : va_G) (dA : Nat → ClassId) (sz : Nat) (ws : va_W) (a : Nat) : Met l ⟨"java/util/AbstractCollection", "<init>", "()V"⟩ [Cond.code ⟨"java/util/AbstractCollection", "<init>", "()V"⟩ prog_35_method_1_code 1 none] { frames := 1, cells := 0, slots := 0, locals := 12 } (pC D dA [.ref a] (ws) sz) (va_Qv (fun (u9 : Unit) => True) (fun (u9 : Unit) t9 => bW D (va_A (ws) sz) (ws) t9) (va_A (ws) sz)) 0 0 (va_A (ws) sz) := by
  refine mkC (y := ⟨"java/util/AbstractCollection", "<init>", "()V"⟩) (cc := prog_35_method_1_code) (maxL := 1) (av := [.ref a]) (ws := ws) (sz := sz) (Qc := fun A => va_Qv (fun (u9 : Unit) => True) (fun (u9 : Unit) t9 => bW D A (ws) t9) A) (by decide) (Nat.le_of_ble_eq_true rfl) ?_
  intro A p e s m below meth c ls hsz hB
  obtain ⟨hx, hb, hr, hml, hown, hin, hlk, hE, hK, hP, hD, hS, hA, hN, hl⟩ := hB
  have hown : s.vm.findClass "java/util/AbstractCollection" = some m.cls := hown
  have hl : lv_has ls 1 [(0, .ref a)] := hl
  obtain ⟨H, hH⟩ : ∃ z, z = s.heap := ⟨_, rfl⟩
  have hP : va_P D vwCl (ws) H := by rw [hH]; exact hP
  have hS : va_S A s.heap H [] := by rw [hH]; exact hS
  rw [← hH]
  refine lv_aload_n hx hb d_AbstractCollection_init_0 rfl (lv_at hl 0 rfl) ?_
  refine oI hx hb hown hE w752 w182 w183 (hl.1.trans hml.symm) d_AbstractCollection_init_1 (Nat.le_of_ble_eq_true rfl) (Nat.le_of_ble_eq_true rfl) ?_
  exact rfV hx hb hr hlk hS () trivial hP hD (Nat.le_of_ble_eq_true rfl) (Nat.le_of_ble_eq_true rfl) d_AbstractCollection_init_4
set_option maxHeartbeats 4000000 in
set_option maxRecDepth 100000 in
theorem v_ALinit (l : Launch) (D : va_G) (dA : Nat → ClassId) (sz : Nat) (ws : va_W) (a : Nat) : Met l ⟨"java/util/AbstractList", "<init>", "()V"⟩ [Cond.code ⟨"java/util/AbstractList", "<init>", "()V"⟩ prog_36_method_1_code 1 none] { frames := 2, cells := 0, slots := 0, locals := 32 } (pC D dA [.ref a] ([(a, .inr (6, [.null, .int 0, .int 0]))] ++ (ws)) sz) (va_Qv (fun (u9 : Unit) => True) (fun (u9 : Unit) t9 => bW D (va_A ([(a, .inr (6, [.null, .int 0, .int 0]))] ++ (ws)) sz) ([(a, .inr (6, [.null, .int 0, .int 0]))] ++ (ws)) t9) (va_A ([(a, .inr (6, [.null, .int 0, .int 0]))] ++ (ws)) sz)) 0 0 (va_A ([(a, .inr (6, [.null, .int 0, .int 0]))] ++ (ws)) sz) := by
  refine mkC (y := ⟨"java/util/AbstractList", "<init>", "()V"⟩) (cc := prog_36_method_1_code) (maxL := 1) (av := [.ref a]) (ws := [(a, .inr (6, [.null, .int 0, .int 0]))] ++ (ws)) (sz := sz) (Qc := fun A => va_Qv (fun (u9 : Unit) => True) (fun (u9 : Unit) t9 => bW D A ([(a, .inr (6, [.null, .int 0, .int 0]))] ++ (ws)) t9) A) (by decide) (Nat.le_of_ble_eq_true rfl) ?_
  intro A p e s m below meth c ls hsz hB
  obtain ⟨hx, hb, hr, hml, hown, hin, hlk, hE, hK, hP, hD, hS, hA, hN, hl⟩ := hB
  have hown : s.vm.findClass "java/util/AbstractList" = some m.cls := hown
  have hl : lv_has ls 1 [(0, .ref a)] := hl
  obtain ⟨H, hH⟩ : ∃ z, z = s.heap := ⟨_, rfl⟩
  have hP : va_P D vwCl ([(a, .inr (6, [.null, .int 0, .int 0]))] ++ (ws)) H := by rw [hH]; exact hP
  have hS : va_S A s.heap H [] := by rw [hH]; exact hS
  rw [← hH]
  refine lv_aload_n hx hb d_AbstractList_init_0 rfl (lv_at hl 0 rfl) ?_
  refine jkV (wr := []) (rnI (As := []) (rest := []) hx hb hml hown hE hK (hN _ _ hS) hP hD (v_ACinit l D dA H.size ([(a, .inr (6, [.null, .int 0, .int 0]))] ++ (ws)) a) w755 w753 w756 w754 rfl rfl rfl ⟨⟨by decide, by decide⟩, rfl⟩ ⟨(Nat.le_of_ble_eq_true rfl), (Nat.le_of_ble_eq_true rfl)⟩ rfl hl.1 rfl (Nat.le_of_ble_eq_true rfl) d_AbstractList_init_1 ⟨(Nat.le_of_ble_eq_true rfl), (Nat.le_of_ble_eq_true rfl)⟩) hP hD hS hA (fun u2 H locs hp9 hP hD hS => ?_)
  have hP : va_P D vwCl ([(a, .inr (6, [.null, .int 0, .int 0]))] ++ (ws)) H := hP
  have hD : va_D A ([(a, .inr (6, [.null, .int 0, .int 0]))] ++ (ws)) := hD
  refine lv_aload_n hx hb d_AbstractList_init_4 rfl (lv_at hl 0 rfl) ?_
  refine lv_iconst (v := 0) hx hb d_AbstractList_init_5 (by decide) ?_
  refine pF (v := .int 0) hx hb hown hE hK hP hD hS 0 rfl rfl layL tyL tokL nmL 2 (by decide) w757 rfl rfl rfl (Nat.le_of_ble_eq_true rfl) d_AbstractList_init_6 (fun H locs hP hD hS => ?_)
  have hP : va_P D vwCl ([(a, .inr (6, [.null, .int 0, .int 0]))] ++ (ws)) H := hP
  have hD : va_D A ([(a, .inr (6, [.null, .int 0, .int 0]))] ++ (ws)) := hD
  exact rfV hx hb hr hlk hS () trivial hP hD (Nat.le_of_ble_eq_true rfl) (Nat.le_of_ble_eq_true rfl) d_AbstractList_init_9
set_option maxHeartbeats 4000000 in
set_option maxRecDepth 100000 in
theorem v_Linit (l : Launch) (D : va_G) (dA : Nat → ClassId) (sz : Nat) (e0 mi : Nat) (ws : va_W) (a : Nat) : Met l ⟨"java/util/ArrayList", "<init>", "()V"⟩ [Cond.code ⟨"java/util/ArrayList", "<init>", "()V"⟩ prog_37_method_2_code 1 none] { frames := 3, cells := 0, slots := 0, locals := 52 } (pCy D dA e0 mi [.ref a] ([(a, .inr (6, [.null, .int 0, .int 0]))] ++ (ws)) sz) (va_Qv (fun (u9 : Unit) => True) (fun (u9 : Unit) t9 => bW D (va_A ([(a, .inr (6, [.null, .int 0, .int 0]))] ++ (ws)) sz) ([(a, .inr (6, [.ref e0, .int 0, .int 0]))] ++ (ws)) t9) (va_A ([(a, .inr (6, [.null, .int 0, .int 0]))] ++ (ws)) sz)) 0 0 (va_A ([(a, .inr (6, [.null, .int 0, .int 0]))] ++ (ws)) sz) := by
  refine mkY (y := ⟨"java/util/ArrayList", "<init>", "()V"⟩) (cc := prog_37_method_2_code) (maxL := 1) (av := [.ref a]) (ws := [(a, .inr (6, [.null, .int 0, .int 0]))] ++ (ws)) (sz := sz) (Qc := fun A => va_Qv (fun (u9 : Unit) => True) (fun (u9 : Unit) t9 => bW D A ([(a, .inr (6, [.ref e0, .int 0, .int 0]))] ++ (ws)) t9) A) (by decide) (Nat.le_of_ble_eq_true rfl) ?_
  intro A p e s m below meth c ls hsz hZ hT hM hB
  obtain ⟨hx, hb, hr, hml, hown, hin, hlk, hE, hK, hP, hD, hS, hA, hN, hl⟩ := hB
  have hown : s.vm.findClass "java/util/ArrayList" = some m.cls := hown
  have hl : lv_has ls 1 [(0, .ref a)] := hl
  obtain ⟨H, hH⟩ : ∃ z, z = s.heap := ⟨_, rfl⟩
  have hP : va_P D vwCl ([(a, .inr (6, [.null, .int 0, .int 0]))] ++ (ws)) H := by rw [hH]; exact hP
  have hS : va_S A s.heap H [] := by rw [hH]; exact hS
  rw [← hH]
  refine lv_aload_n hx hb d_L_init_0 rfl (lv_at hl 0 rfl) ?_
  refine jkV (wr := []) (rnI (As := []) (rest := []) hx hb hml hown hE hK (hN _ _ hS) hP hD (v_ALinit l D dA H.size ws a) w760 w758 w761 w759 rfl rfl rfl ⟨⟨by decide, by decide⟩, rfl⟩ ⟨(Nat.le_of_ble_eq_true rfl), (Nat.le_of_ble_eq_true rfl)⟩ rfl hl.1 rfl (Nat.le_of_ble_eq_true rfl) d_L_init_1 ⟨(Nat.le_of_ble_eq_true rfl), (Nat.le_of_ble_eq_true rfl)⟩) hP hD hS hA (fun u2 H locs hp9 hP hD hS => ?_)
  have hP : va_P D vwCl ([(a, .inr (6, [.null, .int 0, .int 0]))] ++ (ws)) H := hP
  have hD : va_D A ([(a, .inr (6, [.null, .int 0, .int 0]))] ++ (ws)) := hD
  refine lv_aload_n hx hb d_L_init_4 rfl (lv_at hl 0 rfl) ?_
  refine va_gets hx hb hZ hS hown (hE.t w762 rfl) (fun _ h => h) d_L_init_5 ?_
  refine pF (v := .ref e0) hx hb hown hE hK hP hD hS 0 rfl rfl layL tyL tokL nmL 0 (by decide) w656 rfl rfl rfl (Nat.le_of_ble_eq_true rfl) d_L_init_8 (fun H locs hP hD hS => ?_)
  have hP : va_P D vwCl ([(a, .inr (6, [.ref e0, .int 0, .int 0]))] ++ (ws)) H := hP
  have hD : va_D A ([(a, .inr (6, [.ref e0, .int 0, .int 0]))] ++ (ws)) := hD
  exact rfV hx hb hr hlk hS () trivial hP hD (Nat.le_of_ble_eq_true rfl) (Nat.le_of_ble_eq_true rfl) d_L_init_11
theorem d_ArraysSupport_newLength_0 : decode prog_44_method_27_code 0 = .ok (.iload_n 0, 1) := by decide +kernel
theorem d_ArraysSupport_newLength_1 : decode prog_44_method_27_code 1 = .ok (.iload_n 1, 1) := by decide +kernel
theorem d_ArraysSupport_newLength_2 : decode prog_44_method_27_code 2 = .ok (.iload_n 2, 1) := by decide +kernel
theorem d_ArraysSupport_newLength_3 : decode prog_44_method_27_code 3 = .ok (.invokestatic 194, 3) := by decide +kernel
theorem d_ArraysSupport_newLength_6 : decode prog_44_method_27_code 6 = .ok (.iadd, 1) := by decide +kernel
theorem d_ArraysSupport_newLength_7 : decode prog_44_method_27_code 7 = .ok (.istore_n 3, 1) := by decide +kernel
theorem d_ArraysSupport_newLength_8 : decode prog_44_method_27_code 8 = .ok (.iconst 0, 1) := by decide +kernel
theorem d_ArraysSupport_newLength_9 : decode prog_44_method_27_code 9 = .ok (.iload_n 3, 1) := by decide +kernel
theorem d_ArraysSupport_newLength_10 : decode prog_44_method_27_code 10 = .ok (.if_icmp .ge 11, 3) := by decide +kernel
theorem d_ArraysSupport_newLength_13 : decode prog_44_method_27_code 13 = .ok (.iload_n 3, 1) := by decide +kernel
theorem d_ArraysSupport_newLength_14 : decode prog_44_method_27_code 14 = .ok (.ldc 200, 2) := by decide +kernel
theorem d_ArraysSupport_newLength_16 : decode prog_44_method_27_code 16 = .ok (.if_icmp .gt 5, 3) := by decide +kernel
theorem d_ArraysSupport_newLength_19 : decode prog_44_method_27_code 19 = .ok (.iload_n 3, 1) := by decide +kernel
theorem d_ArraysSupport_newLength_20 : decode prog_44_method_27_code 20 = .ok (.ireturn, 1) := by decide +kernel
theorem w1458 : Cond.methodLink "jdk/internal/util/ArraysSupport" 194 ⟨"java/lang/Math", "max", "(II)I"⟩ ∈ aW := aw_of (tb_2 (List.mem_of_getElem? (i := 100) rfl)) rfl
theorem w1459 : Cond.constant "jdk/internal/util/ArraysSupport" 200 2147483639 ∈ aW := aw_of (tb_2 (List.mem_of_getElem? (i := 103) rfl)) rfl
set_option maxHeartbeats 4000000 in
set_option maxRecDepth 100000 in
theorem v_newLength (l : Launch) (D : va_G) (dA : Nat → ClassId) (sz : Nat) (a : Nat) (b : Nat) (k : Nat) (h1 : 1 ≤ b) (h2 : a ≤ 65536) (h3 : b ≤ 65536) (h4 : k ≤ 65536) : Met l ⟨"jdk/internal/util/ArraysSupport", "newLength", "(III)I"⟩ [Cond.code ⟨"jdk/internal/util/ArraysSupport", "newLength", "(III)I"⟩ prog_44_method_27_code 4 (some FieldType.int)] { frames := 1, cells := 0, slots := 0, locals := 14 } (pC D dA [.int (nI a), .int (nI b), .int (nI k)] ([]) sz) (va_Qi (fun (r9 : Int32) (u9 : Unit) => r9 = nI (a + max b k)) (fun (u9 : Unit) t9 => bW D (va_A ([]) sz) ([]) t9) (va_A ([]) sz)) 0 0 (va_A ([]) sz) := by
  refine mkC (y := ⟨"jdk/internal/util/ArraysSupport", "newLength", "(III)I"⟩) (cc := prog_44_method_27_code) (maxL := 4) (av := [.int (nI a), .int (nI b), .int (nI k)]) (ws := []) (sz := sz) (Qc := fun A => va_Qi (fun (r9 : Int32) (u9 : Unit) => r9 = nI (a + max b k)) (fun (u9 : Unit) t9 => bW D A ([]) t9) A) (by decide) (Nat.le_of_ble_eq_true rfl) ?_
  intro A p e s m below meth c ls hsz hB
  obtain ⟨hx, hb, hr, hml, hown, hin, hlk, hE, hK, hP, hD, hS, hA, hN, hl⟩ := hB
  have hown : s.vm.findClass "jdk/internal/util/ArraysSupport" = some m.cls := hown
  have hl : lv_has ls 4 [(0, .int (nI a)), (1, .int (nI b)), (2, .int (nI k))] := hl
  obtain ⟨H, hH⟩ : ∃ z, z = s.heap := ⟨_, rfl⟩
  have hP : va_P D vwCl ([]) H := by rw [hH]; exact hP
  have hS : va_S A s.heap H [] := by rw [hH]; exact hS
  rw [← hH]
  refine lv_iload_n hx hb d_ArraysSupport_newLength_0 rfl (lv_at hl 0 rfl) ?_
  refine lv_iload_n hx hb d_ArraysSupport_newLength_1 rfl (lv_at hl 1 rfl) ?_
  refine lv_iload_n hx hb d_ArraysSupport_newLength_2 rfl (lv_at hl 2 rfl) ?_
  refine va_mmax hx hb (hml.trans hl.1.symm) hown (hE.t w1458 rfl) (hE.t w764 rfl) (hE.t w549 rfl) (hE.t w765 rfl) (Nat.le_of_ble_eq_true rfl) (Nat.le_of_ble_eq_true rfl) (Nat.le_of_ble_eq_true rfl) (Nat.le_of_ble_eq_true rfl) d_ArraysSupport_newLength_3 (tpi (y := nI (max b k)) (nI_max (a := b) (b := k) (by omega) (by omega)) ?_)
  refine lv_iadd hx hb d_ArraysSupport_newLength_6 (tpi (y := nI (a + (max b k))) (nI_add (a) (max b k)) ?_)
  refine lv_istore_n hx hb d_ArraysSupport_newLength_7 rfl hl (by decide) rfl (fun ls hl => ?_)
  have hl : lv_has ls 4 [(3, .int (nI (a + (max b k)))), (0, .int (nI a)), (1, .int (nI b)), (2, .int (nI k))] := hl
  refine lv_iconst (v := 0) hx hb d_ArraysSupport_newLength_8 (by decide) ?_
  refine lv_iload_n hx hb d_ArraysSupport_newLength_9 rfl (lv_at hl 0 rfl) ?_
  refine lv_icmp_ge hx hb d_ArraysSupport_newLength_10 (tgt := 21) rfl (fun g1 => ?_) (fun g1 => ?_)
  · have g1 := (nI_leI (a := a + (max b k)) (b := 0) (by omega) (by omega)).mp g1; exfalso; omega
  have g1 := mt (nI_leI (a := a + (max b k)) (b := 0) (by omega) (by omega)).mpr g1
  refine lv_iload_n hx hb d_ArraysSupport_newLength_13 rfl (lv_at hl 0 rfl) ?_
  refine lv_ldc (v := 2147483639) hx hb hown (hE.t w1459 rfl) d_ArraysSupport_newLength_14 ?_
  refine lv_icmp_gt hx hb d_ArraysSupport_newLength_16 (tgt := 21) rfl (fun g2 => ?_) (fun g2 => ?_)
  · have g2 := (nI_ltI (a := 2147483639) (b := a + (max b k)) (by omega) (by omega)).mp g2; exfalso; omega
  have g2 := mt (nI_ltI (a := 2147483639) (b := a + (max b k)) (by omega) (by omega)).mpr g2
  refine lv_iload_n hx hb d_ArraysSupport_newLength_19 rfl (lv_at hl 0 rfl) ?_
  exact rfI hx hb hr hlk hS () rfl hP hD (Nat.le_of_ble_eq_true rfl) (Nat.le_of_ble_eq_true rfl) d_ArraysSupport_newLength_20
set_option maxHeartbeats 4000000 in
set_option maxRecDepth 100000 in
theorem v_Lgrow1_0 (l : Launch) (D : va_G) (dA : Nat → ClassId) (sz : Nat) (e0 mi : Nat) (ws : va_W) (a : Nat) (mc : Int32) : Met l ⟨"java/util/ArrayList", "grow", "(I)[Ljava/lang/Object;"⟩ [Cond.code ⟨"java/util/ArrayList", "grow", "(I)[Ljava/lang/Object;"⟩ prog_37_method_6_code 4 (some (FieldType.array (FieldType.object "java/lang/Object")))] { frames := 1, cells := 1, slots := 10, locals := 14 } (pCy D dA e0 mi [.ref a, .int 1] ([(a, .inr (6, [.ref e0, .int 0, .int mc]))] ++ (ws)) sz) (va_Qr (fun (_ : Unit) => True) (fun (u9 : Unit) (r9 : Nat) t9 => (True) ∧ bW D (va_A ([(a, .inr (6, [.ref e0, .int 0, .int mc]))] ++ (ws)) sz) ([(r9, .inl (dA 7, 10, .inr (.inr (.inr (.inr (fun _ => none))))))] ++ ([(a, .inr (6, [.ref r9, .int 0, .int mc]))] ++ (ws))) t9) (va_A ([(a, .inr (6, [.ref e0, .int 0, .int mc]))] ++ (ws)) sz)) 1 10 (va_A ([(a, .inr (6, [.ref e0, .int 0, .int mc]))] ++ (ws)) sz) := by
  refine mkY (y := ⟨"java/util/ArrayList", "grow", "(I)[Ljava/lang/Object;"⟩) (cc := prog_37_method_6_code) (maxL := 4) (av := [.ref a, .int 1]) (ws := [(a, .inr (6, [.ref e0, .int 0, .int mc]))] ++ (ws)) (sz := sz) (Qc := fun A => va_Qr (fun (_ : Unit) => True) (fun (u9 : Unit) (r9 : Nat) t9 => (True) ∧ bW D A ([(r9, .inl (dA 7, 10, .inr (.inr (.inr (.inr (fun _ => none))))))] ++ ([(a, .inr (6, [.ref r9, .int 0, .int mc]))] ++ (ws))) t9) A) (by decide) (Nat.le_of_ble_eq_true rfl) ?_
  intro A p e s m below meth c ls hsz hZ hT hM hB
  obtain ⟨hx, hb, hr, hml, hown, hin, hlk, hE, hK, hP, hD, hS, hA, hN, hl⟩ := hB
  have hown : s.vm.findClass "java/util/ArrayList" = some m.cls := hown
  have hl : lv_has ls 4 [(0, .ref a), (1, .int 1)] := hl
  obtain ⟨H, hH⟩ : ∃ z, z = s.heap := ⟨_, rfl⟩
  have hP : va_P D vwCl ([(a, .inr (6, [.ref e0, .int 0, .int mc]))] ++ (ws)) H := by rw [hH]; exact hP
  have hS : va_S A s.heap H [] := by rw [hH]; exact hS
  rw [← hH]
  refine lv_aload_n hx hb d_L_grow_6cd_0 rfl (lv_at hl 0 rfl) ?_
  refine gF (v := .ref e0) hx hb hown hE hK hP 0 rfl rfl layL 0 (by decide) w656 rfl d_L_grow_6cd_1 ?_
  refine va_tlen (v := 0) hx hb hT hS (by decide) d_L_grow_6cd_4 ?_
  refine lv_istore_n hx hb d_L_grow_6cd_5 rfl hl (by decide) rfl (fun ls hl => ?_)
  have hl : lv_has ls 4 [(2, .int 0), (0, .ref a), (1, .int 1)] := hl
  refine lv_iload_n hx hb d_L_grow_6cd_6 rfl (lv_at hl 0 rfl) ?_
  refine lv_if_gt hx hb d_L_grow_6cd_7 (tgt := 20) rfl (fun h9 => absurd h9 (by decide)) (fun _ => ?_)
  refine lv_aload_n hx hb d_L_grow_6cd_10 rfl (lv_at hl 1 rfl) ?_
  refine gF (v := .ref e0) hx hb hown hE hK hP 0 rfl rfl layL 0 (by decide) w656 rfl d_L_grow_6cd_11 ?_
  refine va_gets hx hb hZ hS hown (hE.t w762 rfl) (fun _ h => h) d_L_grow_6cd_14 ?_
  refine lv_acmp_eq (rx := some e0) (ry := some e0) hx hb d_L_grow_6cd_17 (tgt := 45) rfl (fun _ => ?_) (fun h9 => absurd rfl h9)
  refine lv_aload_n hx hb d_L_grow_6cd_45 rfl (lv_at hl 1 rfl) ?_
  refine lv_bipush (v := 10) hx hb d_L_grow_6cd_46 (by decide) ?_
  refine lv_iload_n hx hb d_L_grow_6cd_48 rfl (lv_at hl 2 rfl) ?_
  refine va_mmax hx hb (hml.trans hl.1.symm) hown (hE.t w763 rfl) (hE.t w764 rfl) (hE.t w549 rfl) (hE.t w765 rfl) (Nat.le_of_ble_eq_true rfl) (Nat.le_of_ble_eq_true rfl) (show 0 ≤ 1 by omega) (show 0 ≤ 10 by omega) d_L_grow_6cd_49 (tpi (y := nI (max 10 1)) (nI_max (a := 10) (b := 1) (by omega) (by omega)) ?_)
  refine tpi (y := 10) (by decide) ?_
  refine nnQ (N' := 10) hx hb hown hE w766 w767 hK hP hD hS hA 7 rfl (by omega) (show 10 * 4 ≤ 536870912 by omega) (show 0 + 1 ≤ 1 by omega) (show 0 + 10 ≤ 10 by omega) d_L_grow_6cd_52 (fun r9 H hP hD hS => ?_)
  have hP : va_P D vwCl ([(r9, .inl (dA 7, 10, .inr (.inr (.inr (.inr (fun _ => none))))))] ++ ([(a, .inr (6, [.ref e0, .int 0, .int mc]))] ++ (ws))) H := hP
  have hD : va_D A ([(r9, .inl (dA 7, 10, .inr (.inr (.inr (.inr (fun _ => none))))))] ++ ([(a, .inr (6, [.ref e0, .int 0, .int mc]))] ++ (ws))) := hD
  refine lv_dup_x1 hx hb d_L_grow_6cd_55 rfl rfl ?_
  refine pF (v := .ref r9) hx hb hown hE hK hP hD hS 1 rfl rfl layL tyL tokL nmL 0 (by decide) w656 rfl rfl rfl (Nat.le_of_ble_eq_true rfl) d_L_grow_6cd_56 (fun H locs hP hD hS => ?_)
  have hP : va_P D vwCl ([(r9, .inl (dA 7, 10, .inr (.inr (.inr (.inr (fun _ => none))))))] ++ ([(a, .inr (6, [.ref r9, .int 0, .int mc]))] ++ (ws))) H := hP
  have hD : va_D A ([(r9, .inl (dA 7, 10, .inr (.inr (.inr (.inr (fun _ => none))))))] ++ ([(a, .inr (6, [.ref r9, .int 0, .int mc]))] ++ (ws))) := hD
  exact rkR hx hb hr (Or.inr ⟨_, rfl⟩) hlk hS () trivial hP hD (show 0 + 1 ≤ 1 by omega) (show 0 + 10 ≤ 10 by omega) d_L_grow_6cd_59
set_option maxHeartbeats 4000000 in
set_option maxRecDepth 100000 in
theorem v_Lgrow_0 (l : Launch) (D : va_G) (dA : Nat → ClassId) (sz : Nat) (e0 mi : Nat) (ws : va_W) (a : Nat) (mc : Int32) : Met l ⟨"java/util/ArrayList", "grow", "()[Ljava/lang/Object;"⟩ [Cond.code ⟨"java/util/ArrayList", "grow", "()[Ljava/lang/Object;"⟩ prog_37_method_7_code 1 (some (FieldType.array (FieldType.object "java/lang/Object")))] { frames := 2, cells := 1, slots := 10, locals := 37 } (pCy D dA e0 mi [.ref a] ([(a, .inr (6, [.ref e0, .int 0, .int mc]))] ++ (ws)) sz) (va_Qr (fun (_ : Unit) => True) (fun (u9 : Unit) (r9 : Nat) t9 => (True) ∧ bW D (va_A ([(a, .inr (6, [.ref e0, .int 0, .int mc]))] ++ (ws)) sz) ([(r9, .inl (dA 7, 10, .inr (.inr (.inr (.inr (fun _ => none))))))] ++ ([(a, .inr (6, [.ref r9, .int 0, .int mc]))] ++ (ws))) t9) (va_A ([(a, .inr (6, [.ref e0, .int 0, .int mc]))] ++ (ws)) sz)) 1 10 (va_A ([(a, .inr (6, [.ref e0, .int 0, .int mc]))] ++ (ws)) sz) := by
  refine mkY (y := ⟨"java/util/ArrayList", "grow", "()[Ljava/lang/Object;"⟩) (cc := prog_37_method_7_code) (maxL := 1) (av := [.ref a]) (ws := [(a, .inr (6, [.ref e0, .int 0, .int mc]))] ++ (ws)) (sz := sz) (Qc := fun A => va_Qr (fun (_ : Unit) => True) (fun (u9 : Unit) (r9 : Nat) t9 => (True) ∧ bW D A ([(r9, .inl (dA 7, 10, .inr (.inr (.inr (.inr (fun _ => none))))))] ++ ([(a, .inr (6, [.ref r9, .int 0, .int mc]))] ++ (ws))) t9) A) (by decide) (Nat.le_of_ble_eq_true rfl) ?_
  intro A p e s m below meth c ls hsz hZ hT hM hB
  obtain ⟨hx, hb, hr, hml, hown, hin, hlk, hE, hK, hP, hD, hS, hA, hN, hl⟩ := hB
  have hown : s.vm.findClass "java/util/ArrayList" = some m.cls := hown
  have hl : lv_has ls 1 [(0, .ref a)] := hl
  obtain ⟨H, hH⟩ : ∃ z, z = s.heap := ⟨_, rfl⟩
  have hP : va_P D vwCl ([(a, .inr (6, [.ref e0, .int 0, .int mc]))] ++ (ws)) H := by rw [hH]; exact hP
  have hS : va_S A s.heap H [] := by rw [hH]; exact hS
  rw [← hH]
  refine lv_aload_n hx hb d_L_grow_d81_0 rfl (lv_at hl 0 rfl) ?_
  refine lv_aload_n hx hb d_L_grow_d81_1 rfl (lv_at hl 0 rfl) ?_
  refine gF (v := .int 0) hx hb hown hE hK hP 0 rfl rfl layL 1 (by decide) w657 rfl d_L_grow_d81_2 ?_
  refine lv_iconst (v := 1) hx hb d_L_grow_d81_5 (by decide) ?_
  refine lv_iadd hx hb d_L_grow_d81_6 (tpi (y := 1) (by decide) ?_)
  refine tpi (y := 1) (by decide) ?_
  refine jkR (wr := []) (rnVy (As := [.int 1]) (rest := []) hx hb hml hown hE hK hZ hT hM hS (hN _ _ hS) hP hD (v_Lgrow1_0 l D dA H.size e0 mi ws a mc) (q0 := 0) rfl rfl w769 w768 w770 w771 w680 rfl rfl ⟨⟨by decide, by decide⟩, rfl⟩ ⟨(Nat.le_of_ble_eq_true rfl), (Nat.le_of_ble_eq_true rfl)⟩ rfl hl.1 rfl (Nat.le_of_ble_eq_true rfl) d_L_grow_d81_7 ⟨(show 0 + 1 ≤ 1 by omega), (show 0 + 10 ≤ 10 by omega)⟩) hP hD hS hA (fun u1 r9 H locs hp9 hP hD hS => ?_)
  have hP : va_P D vwCl ([(r9, .inl (dA 7, 10, .inr (.inr (.inr (.inr (fun _ => none))))))] ++ ([(a, .inr (6, [.ref r9, .int 0, .int mc]))] ++ (ws))) H := hP
  have hD : va_D A ([(r9, .inl (dA 7, 10, .inr (.inr (.inr (.inr (fun _ => none))))))] ++ ([(a, .inr (6, [.ref r9, .int 0, .int mc]))] ++ (ws))) := hD
  exact rkR hx hb hr (Or.inr ⟨_, rfl⟩) hlk hS () trivial hP hD (show 0 + 1 ≤ 1 by omega) (show 0 + 10 ≤ 10 by omega) d_L_grow_d81_10
end
