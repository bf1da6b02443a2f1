def VS.lbS (x : VS) (c : Nat) (S E V : Nat → Nat) : VS := VS.s_rlab (VS.s_rV (VS.s_rE (VS.s_rS x S) E) V) c
/-- a label as it lies on the tape; labels by rising names -/
def rawL (f : Nat → Int32) (S E V : Nat → Nat) (k : Nat) : LB := (seg f (S k) (E k), seg f (E k + 1) (V k))
def insP (n : List Int32) (L : List LB) : Nat → Nat
  | 0 => 0
  | k + 1 => if 0 < cmpW (lab L k).1 n then insP n L k else k + 1
theorem insP_le (n : List Int32) (L : List LB) : ∀ k, insP n L k ≤ k
  | 0 => Nat.le_refl _
  | k + 1 => by
    unfold insP
    split
    · have := insP_le n L k
      omega
    · exact Nat.le_refl _
def insL (l : LB) (L : List LB) : List LB := L.take (insP l.1 L L.length) ++ (l :: L.drop (insP l.1 L L.length))
def srtL (f : Nat → Int32) (S E V : Nat → Nat) : Nat → List LB
  | 0 => []
  | i + 1 => insL (rawL f S E V i) (srtL f S E V i)
theorem insL_len (l : LB) (L : List LB) : (insL l L).length = L.length + 1 := by
  have := insP_le l.1 L L.length
  unfold insL
  rw [List.length_append, List.length_take, List.length_cons, List.length_drop]
  omega
theorem srtL_len (f : Nat → Int32) (S E V : Nat → Nat) : ∀ i, (srtL f S E V i).length = i
  | 0 => rfl
  | i + 1 => by
    show (insL _ (srtL f S E V i)).length = _
    rw [insL_len, srtL_len f S E V i]
theorem lab_ins (l : LB) (L : List LB) (k : Nat) : lab (insL l L) k = if k < insP l.1 L L.length then lab L k else if k = insP l.1 L L.length then l else lab L (k - 1) := by
  have hp := insP_le l.1 L L.length
  unfold lab insL
  have hl : (L.take (insP l.1 L L.length)).length = insP l.1 L L.length := by rw [List.length_take]; omega
  by_cases h : k < insP l.1 L L.length
  · rw [if_pos h, List.getD_eq_getElem?_getD, List.getElem?_append_left (by omega), List.getElem?_take_of_lt h, ← List.getD_eq_getElem?_getD]
  · rw [if_neg h, List.getD_eq_getElem?_getD, List.getElem?_append_right (by omega), hl]
    by_cases e : k = insP l.1 L L.length
    · rw [if_pos e, e, Nat.sub_self]
      rfl
    · rw [if_neg e]
      obtain ⟨j, hj⟩ : ∃ j, k - insP l.1 L L.length = j + 1 := ⟨k - insP l.1 L L.length - 1, by omega⟩
      rw [hj, List.getElem?_cons_succ, List.getElem?_drop, ← List.getD_eq_getElem?_getD]
      congr 1
      omega
/-- a row moved up by one between p and i -/
def shU {α : Type} (f : Nat → α) (p i : Nat) : Nat → α := fun z => if p < z ∧ z ≤ i then f (z - 1) else f z
theorem shU_0 {α : Type} (f : Nat → α) (i : Nat) : shU f i i = f := by
  funext z
  unfold shU
  rw [if_neg (by omega)]
theorem shU_lt {α : Type} (f : Nat → α) {p i z : Nat} (h : z ≤ p) : shU f p i z = f z := by
  unfold shU
  rw [if_neg (by omega)]
theorem shU_s {α : Type} {f : Nat → α} {p i : Nat} {v : α} (hp : 0 < p) (hi : p ≤ i) (hv : v = f (p - 1)) : va_up (shU f p i) p v = shU f (p - 1) i := by
  funext z
  show (if z = p then v else if p < z ∧ z ≤ i then f (z - 1) else f z) = if p - 1 < z ∧ z ≤ i then f (z - 1) else f z
  by_cases e : z = p
  · subst e
    rw [if_pos rfl, if_pos (by omega), hv]
  · rw [if_neg e]
    by_cases g : p < z ∧ z ≤ i
    · rw [if_pos g, if_pos (by omega)]
    · rw [if_neg g, if_neg (by omega)]
/-- the labels of rows of words -/
def lbW (dA : Nat → ClassId) (pl : va_W) (fn fv : Nat → Option Nat) (L : List LB) : Prop := ∀ k, k < L.length → ∃ p q : Nat, fn k = some p ∧ isWo dA pl p (lab L k).1 ∧ fv k = some q ∧ isWo dA pl q (lab L k).2
theorem lbW_ins {dA : Nat → ClassId} {pl : va_W} {fn fv : Nat → Option Nat} {L : List LB} {l : LB} {a b : Nat} (h : lbW dA pl fn fv L) (h1 : isWo dA pl a l.1) (h2 : isWo dA pl b l.2) : lbW dA pl (va_up (shU fn (insP l.1 L L.length) L.length) (insP l.1 L L.length) (some a)) (va_up (shU fv (insP l.1 L L.length) L.length) (insP l.1 L L.length) (some b)) (insL l L) := by
  intro k hk
  rw [insL_len] at hk
  have hp := insP_le l.1 L L.length
  rw [lab_ins]
  by_cases h3 : k < insP l.1 L L.length
  · obtain ⟨p, q, a1, a2, a3, a4⟩ := h k (by omega)
    rw [if_pos h3, va_up_ne _ _ (by omega), va_up_ne _ _ (by omega), shU_lt _ (by omega), shU_lt _ (by omega)]
    exact ⟨p, q, a1, a2, a3, a4⟩
  · rw [if_neg h3]
    by_cases e : k = insP l.1 L L.length
    · rw [if_pos e, e, va_up_self, va_up_self]
      exact ⟨a, b, rfl, h1, rfl, h2⟩
    · rw [if_neg e, va_up_ne _ _ e, va_up_ne _ _ e]
      unfold shU
      rw [if_pos (by omega), if_pos (by omega)]
      exact h (k - 1) (by omega)
theorem lbW_m {dA : Nat → ClassId} {pl pl' : va_W} {fn fv : Nat → Option Nat} {L : List LB} (hs : ∀ c, c ∈ pl → c ∈ pl') (h : lbW dA pl fn fv L) : lbW dA pl' fn fv L := by
  intro k hk
  obtain ⟨p, q, a1, a2, a3, a4⟩ := h k hk
  exact ⟨p, q, a1, isWo_m hs a2, a3, isWo_m hs a4⟩
theorem srt_ok {f : Nat → Int32} {S E V : Nat → Nat} {len c : Nat} (h : lbOk len c S E V) : ∀ {i : Nat}, i ≤ c → ∀ k, k < i → (lab (srtL f S E V i) k).1.length ≤ 24 ∧ (lab (srtL f S E V i) k).2.length ≤ 24
  | 0, _, k, hk => absurd hk (Nat.not_lt_zero k)
  | i + 1, hi, k, hk => by
    have hb := h i (by omega)
    show (lab (insL (rawL f S E V i) (srtL f S E V i)) k).1.length ≤ 24 ∧ (lab (insL (rawL f S E V i) (srtL f S E V i)) k).2.length ≤ 24
    have hp := insP_le (rawL f S E V i).1 (srtL f S E V i) (srtL f S E V i).length
    rw [srtL_len] at hp
    rw [lab_ins, srtL_len]
    split
    · exact srt_ok h (by omega) k (by omega)
    · split
      · unfold rawL
        rw [seg_len, seg_len]
        omega
      · exact srt_ok h (by omega) (k - 1) (by omega)
theorem srt_sOk {f : Nat → Int32} {S E V : Nat → Nat} {len c : Nat} (h : lbOk len c S E V) (hc : c ≤ 6) : serOk (srtL f S E V c) := by
  refine ⟨by rw [srtL_len]; exact hc, fun k hk => srt_ok h (Nat.le_refl _) k ?_⟩
  rw [srtL_len] at hk
  exact hk
theorem d_R_read_32 : decode prog_8_method_2_code 32 = .ok (.iload_n 3, 1) := by decide +kernel
theorem d_R_read_33 : decode prog_8_method_2_code 33 = .ok (.iload_n 2, 1) := by decide +kernel
theorem d_R_read_34 : decode prog_8_method_2_code 34 = .ok (.if_icmp .ne 5, 3) := by decide +kernel
theorem d_R_read_39 : decode prog_8_method_2_code 39 = .ok (.aload_n 1, 1) := by decide +kernel
theorem d_R_read_40 : decode prog_8_method_2_code 40 = .ok (.iload_n 3, 1) := by decide +kernel
theorem d_R_read_41 : decode prog_8_method_2_code 41 = .ok (.baload, 1) := by decide +kernel
theorem d_R_read_42 : decode prog_8_method_2_code 42 = .ok (.bipush 44, 2) := by decide +kernel
theorem d_R_read_44 : decode prog_8_method_2_code 44 = .ok (.if_icmp .eq 13, 3) := by decide +kernel
theorem d_R_read_57 : decode prog_8_method_2_code 57 = .ok (.iinc 3 1, 3) := by decide +kernel
theorem d_R_read_60 : decode prog_8_method_2_code 60 = .ok (.iinc 4 1, 3) := by decide +kernel
theorem d_R_read_63 : decode prog_8_method_2_code 63 = .ok (.goto (-53), 3) := by decide +kernel
theorem d_R_read_47 : decode prog_8_method_2_code 47 = .ok (.aload_n 0, 1) := by decide +kernel
theorem d_R_read_48 : decode prog_8_method_2_code 48 = .ok (.bipush 7, 2) := by decide +kernel
theorem d_R_read_50 : decode prog_8_method_2_code 50 = .ok (.iload_n 3, 1) := by decide +kernel
theorem d_R_read_51 : decode prog_8_method_2_code 51 = .ok (.invokevirtual 29, 3) := by decide +kernel
theorem d_R_read_54 : decode prog_8_method_2_code 54 = .ok (.pop, 1) := by decide +kernel
theorem d_R_read_55 : decode prog_8_method_2_code 55 = .ok (.iconst 0, 1) := by decide +kernel
theorem d_R_read_56 : decode prog_8_method_2_code 56 = .ok (.ireturn, 1) := by decide +kernel
theorem d_R_read_37 : decode prog_8_method_2_code 37 = .ok (.iconst 1, 1) := by decide +kernel
theorem d_R_read_38 : decode prog_8_method_2_code 38 = .ok (.ireturn, 1) := by decide +kernel
set_option maxHeartbeats 4000000 in
set_option maxRecDepth 100000 in
theorem v_read (l : Launch) (D : va_G) (dA : Nat → ClassId) (sz : Nat) (h : Nat) (ad : Nat → Nat) (x : VS) (len : Nat) (h2 : len ≤ x.tpN) (h3 : x.tpN ≤ 131072) : Met l ⟨"SeriesVault$SeriesReader", "read", "([BI)Z"⟩ [Cond.code ⟨"SeriesVault$SeriesReader", "read", "([BI)Z"⟩ prog_8_method_2_code 5 (some FieldType.boolean)] { frames := 4, cells := 0, slots := 0, locals := 74 } (pC D dA [.ref (ad 18), .ref x.tpA, .int (nI len)] (VW dA h ad x) sz) (va_Qi (fun (r9 : Int32) (u9 : VS) => ((∃ (kf : Int32) (pf c : Nat) (S E V : Nat → Nat), rdC x.tape len 7 0 0 x.rS x.rE x.rV = .inl (kf, pf) ∧ r9 = 0 ∧ u9 = (x.lbS c S E V).rfS kf pf) ∨ (∃ (c : Nat) (S E V : Nat → Nat), rdC x.tape len 7 0 0 x.rS x.rE x.rV = .inr (c, S, E, V) ∧ lbOk len c S E V ∧ c ≤ 6 ∧ 0 < c ∧ r9 = 1 ∧ u9 = x.lbS c S E V))) (fun (u9 : VS) t9 => bW D (va_A (VW dA h ad x) sz) (VW dA h ad u9) t9) (va_A (VW dA h ad x) sz)) 0 0 (va_A (VW dA h ad x) sz) := by
  refine mkC (y := ⟨"SeriesVault$SeriesReader", "read", "([BI)Z"⟩) (cc := prog_8_method_2_code) (maxL := 5) (av := [.ref (ad 18), .ref x.tpA, .int (nI len)]) (ws := VW dA h ad x) (sz := sz) (Qc := fun A => va_Qi (fun (r9 : Int32) (u9 : VS) => ((∃ (kf : Int32) (pf c : Nat) (S E V : Nat → Nat), rdC x.tape len 7 0 0 x.rS x.rE x.rV = .inl (kf, pf) ∧ r9 = 0 ∧ u9 = (x.lbS c S E V).rfS kf pf) ∨ (∃ (c : Nat) (S E V : Nat → Nat), rdC x.tape len 7 0 0 x.rS x.rE x.rV = .inr (c, S, E, V) ∧ lbOk len c S E V ∧ c ≤ 6 ∧ 0 < c ∧ r9 = 1 ∧ u9 = x.lbS c S E V))) (fun (u9 : VS) t9 => bW D A (VW dA h ad u9) t9) A) (by decide) (Nat.le_of_ble_eq_true rfl) ?_
  intro A p e s m below meth c ls hsz hB
  obtain ⟨hx, hb, hr, hml, hown, hin, hlk, hE, hK, hP, hD, hS, hA, hN, hl⟩ := hB
  have hown : s.vm.findClass "SeriesVault$SeriesReader" = some m.cls := hown
  have hl : lv_has ls 5 [(0, .ref (ad 18)), (1, .ref x.tpA), (2, .int (nI len))] := hl
  obtain ⟨H, hH⟩ : ∃ z, z = s.heap := ⟨_, rfl⟩
  have hP : va_P D vwCl (VW dA h ad x) H := by rw [hH]; exact hP
  have hS : va_S A s.heap H [] := by rw [hH]; exact hS
  rw [← hH]
  refine lv_aload_n hx hb d_R_read_0 rfl (lv_at hl 0 rfl) ?_
  refine lv_iconst (v := 0) hx hb d_R_read_1 (by decide) ?_
  refine pF (v := .int (nI 0)) hx hb hown hE hK hP hD hS 32 rfl rfl layR tyR tokR nmR 3 (by decide) w603 rfl rfl rfl (Nat.le_of_ble_eq_true rfl) d_R_read_2 (fun H locs hP hD hS => ?_)
  have hP : va_P D vwCl (VW dA h ad (VS.s_rlab x 0)) H := hP
  have hD : va_D A (VW dA h ad (VS.s_rlab x 0)) := hD
  refine lv_iconst (v := 0) hx hb d_R_read_5 (by decide) ?_
  refine lv_istore_n hx hb d_R_read_6 rfl hl (by decide) rfl (fun ls hl => ?_)
  have hl : lv_has ls 5 [(3, .int 0), (0, .ref (ad 18)), (1, .ref x.tpA), (2, .int (nI len))] := hl
  refine lv_iconst (v := 0) hx hb d_R_read_7 (by decide) ?_
  refine lv_istore hx hb d_R_read_8 hl (by decide) rfl (fun ls hl => ?_)
  have hl : lv_has ls 5 [(4, .int 0), (3, .int 0), (0, .ref (ad 18)), (1, .ref x.tpA), (2, .int (nI len))] := hl
  have L10 : ∀ (k9 : Nat) (i : Nat) (q : Nat) (S : Nat → Nat) (E : Nat → Nat) (V : Nat → Nat) (i1 : i ≤ 6) (iq : q ≤ len) (il : lbOk len i S E V) (ir : rdC x.tape len (7 - i) q i S E V = rdC x.tape len 7 0 0 x.rS x.rE x.rV) (hk9 : 7 - i = k9), ∀ (H : Heap) (locs : List Loc) (ls : Array Slot) (hP : va_P D vwCl (VW dA h ad (VS.s_rlab (VS.s_rV (VS.s_rE (VS.s_rS x S) E) V) i)) H) (hD : va_D A (VW dA h ad (VS.s_rlab (VS.s_rV (VS.s_rE (VS.s_rS x S) E) V) i))) (hS : va_S A s.heap H locs) (hl : lv_has ls 5 [(4, .int (nI i)), (3, .int (nI q)), (0, .ref (ad 18)), (1, .ref x.tpA), (2, .int (nI len))]), W p l e ({ frames := 4, cells := 0, slots := 0, locals := 74 } : Room) s m ([.ref (ad 18), .ref x.tpA, .int (nI len)] : List Value).toArray below meth c H locs 0 0 (MQ below (va_Qi (fun (r9 : Int32) (u9 : VS) => ((∃ (kf : Int32) (pf c : Nat) (S E V : Nat → Nat), rdC x.tape len 7 0 0 x.rS x.rE x.rV = .inl (kf, pf) ∧ r9 = 0 ∧ u9 = (x.lbS c S E V).rfS kf pf) ∨ (∃ (c : Nat) (S E V : Nat → Nat), rdC x.tape len 7 0 0 x.rS x.rE x.rV = .inr (c, S, E, V) ∧ lbOk len c S E V ∧ c ≤ 6 ∧ 0 < c ∧ r9 = 1 ∧ u9 = x.lbS c S E V))) (fun (u9 : VS) t9 => bW D A (VW dA h ad u9) t9) A) ([.ref (ad 18), .ref x.tpA, .int (nI len)] : List Value).toArray s 0 0 A) (F0 m 10 ls []) := by
    intro k9
    induction k9 using Nat.strongRecOn with
    | ind k9 ih10 =>
      intro i q S E V i1 iq il ir hk9 H locs ls hP hD hS hl
      refine lv_iload hx hb d_R_read_10 (lv_at hl 0 rfl) ?_
      refine lv_bipush (v := 6) hx hb d_R_read_12 (by decide) ?_
      refine lv_icmp_gt hx hb d_R_read_14 (tgt := 66) rfl (fun g1 => ?_) (fun g1 => ?_)
      · have g1 := (nI_ltI (a := 6) (b := i) (by omega) (by omega)).mp g1; exfalso; omega
      have g1 := mt (nI_ltI (a := 6) (b := i) (by omega) (by omega)).mpr g1
      refine lv_aload_n hx hb d_R_read_17 rfl (lv_at hl 2 rfl) ?_
      refine lv_aload_n hx hb d_R_read_18 rfl (lv_at hl 3 rfl) ?_
      refine lv_iload_n hx hb d_R_read_19 rfl (lv_at hl 4 rfl) ?_
      refine lv_iload_n hx hb d_R_read_20 rfl (lv_at hl 1 rfl) ?_
      refine jkI (wr := []) (rnV (As := [.ref x.tpA, .int (nI len), .int (nI q)]) (rest := []) hx hb hml hown hE hK (hN _ _ hS) hP hD (v_readLabel l D dA H.size h ad (VS.s_rlab (VS.s_rV (VS.s_rE (VS.s_rS x S) E) V) i) len q iq (show len ≤ x.tpN from by omega) (show x.tpN ≤ 131072 from by omega) (show i ≤ 6 from by omega) il) (q0 := 32) rfl rfl w605 w604 w606 w607 w596 rfl rfl ⟨⟨by decide, by decide⟩, rfl⟩ ⟨(Nat.le_of_ble_eq_true rfl), (Nat.le_of_ble_eq_true rfl)⟩ rfl hl.1 rfl (Nat.le_of_ble_eq_true rfl) d_R_read_21 ⟨(Nat.le_of_ble_eq_true rfl), (Nat.le_of_ble_eq_true rfl)⟩) hP hD hS hA (fun r2 u3 H locs hp9 hP hD hS => ?_)
      obtain ⟨y4, h9u⟩ : ∃ z9, z9 = u3 := ⟨_, rfl⟩
      subst h9u
      have hP : va_P D vwCl (VW dA h ad y4) H := hP
      have hD : va_D A (VW dA h ad y4) := hD
      have f_r_5 := hp9
      rcases f_r_5 with ⟨kf, pf, hr9, e9, ey⟩ | ⟨n, b, hr9, e9, ey⟩
      · subst e9
        subst ey
        have hP : va_P D vwCl (VW dA h ad (VS.s_rplace (VS.s_rcode (VS.s_rlab (VS.s_rV (VS.s_rE (VS.s_rS x S) E) V) i) kf) (nI pf))) H := hP
        have hD : va_D A (VW dA h ad (VS.s_rplace (VS.s_rcode (VS.s_rlab (VS.s_rV (VS.s_rE (VS.s_rS x S) E) V) i) kf) (nI pf))) := hD
        refine lv_istore_n hx hb d_R_read_24 rfl hl (by decide) rfl (fun ls hl => ?_)
        have hl : lv_has ls 5 [(3, .int (-1)), (4, .int (nI i)), (0, .ref (ad 18)), (1, .ref x.tpA), (2, .int (nI len))] := hl
        refine lv_iload_n hx hb d_R_read_25 rfl (lv_at hl 0 rfl) ?_
        refine lv_iconst (v := (-1)) hx hb d_R_read_26 (by decide) ?_
        refine lv_icmp_ne hx hb d_R_read_27 (tgt := 32) rfl (fun h9 => absurd (by decide) h9) (fun _ => ?_)
        refine lv_iconst (v := 0) hx hb d_R_read_30 (by decide) ?_
        exact rfZ hx hb hr (bI_nar false) hlk hS (VS.s_rplace (VS.s_rcode (VS.s_rlab (VS.s_rV (VS.s_rE (VS.s_rS x S) E) V) i) kf) (nI pf)) (Or.inl ⟨kf, pf, i, S, E, V, by rw [← ir, show 7 - i = (6 - i) + 1 by omega, rd_x hr9], rfl, rfl⟩) hP hD (Nat.le_of_ble_eq_true rfl) (Nat.le_of_ble_eq_true rfl) d_R_read_31
      · subst e9
        subst ey
        have hP : va_P D vwCl (VW dA h ad (VS.s_rlab (VS.s_rV (VS.s_rE (VS.s_rS x (va_up S i q)) (va_up E i n)) (va_up V i b)) (i + 1))) H := hP
        have hD : va_D A (VW dA h ad (VS.s_rlab (VS.s_rV (VS.s_rE (VS.s_rS x (va_up S i q)) (va_up E i n)) (va_up V i b)) (i + 1))) := hD
        obtain ⟨c6, b1, b2, b3, b4, b5, b6, b7, b8, b9⟩ := rl_in iq hr9
        have c6 : ¬ i = 6 := c6
        refine lv_istore_n hx hb d_R_read_24 rfl hl (by decide) rfl (fun ls hl => ?_)
        have hl : lv_has ls 5 [(3, .int (nI b)), (4, .int (nI i)), (0, .ref (ad 18)), (1, .ref x.tpA), (2, .int (nI len))] := hl
        refine lv_iload_n hx hb d_R_read_25 rfl (lv_at hl 0 rfl) ?_
        refine lv_iconst (v := (-1)) hx hb d_R_read_26 (by decide) ?_
        refine lv_icmp_ne hx hb d_R_read_27 (tgt := 32) rfl (fun _ => ?_) (fun h9 => absurd h9 (nI_nm (by omega)))
        refine lv_iload_n hx hb d_R_read_32 rfl (lv_at hl 0 rfl) ?_
        refine lv_iload_n hx hb d_R_read_33 rfl (lv_at hl 4 rfl) ?_
        refine lv_icmp_ne hx hb d_R_read_34 (tgt := 39) rfl (fun g6 => ?_) (fun g6 => ?_)
        · have g6 := mt (nI_eq (a := b) (b := len) (by omega) (by omega)).mpr g6
          refine lv_aload_n hx hb d_R_read_39 rfl (lv_at hl 3 rfl) ?_
          refine lv_iload_n hx hb d_R_read_40 rfl (lv_at hl 0 rfl) ?_
          refine nbld (f := x.tape) (n := x.tpN) hx hb hK hP (1) 0 rfl rfl (b) (by omega) (by omega) d_R_read_41 ?_
          refine lv_bipush (v := 44) hx hb d_R_read_42 (by decide) ?_
          refine lv_icmp_eq hx hb d_R_read_44 (tgt := 57) rfl (fun g7 => ?_) (fun g7 => ?_)
          · have g7 := g7
            refine lv_iinc (k := 0) (v := nI (b + 1)) hx hb d_R_read_57 hl rfl (iincN (b) 1 1 (by decide)) (by decide) rfl (fun ls hl => ?_)
            have hl : lv_has ls 5 [(3, .int (nI (b + 1))), (4, .int (nI i)), (0, .ref (ad 18)), (1, .ref x.tpA), (2, .int (nI len))] := hl
            refine lv_iinc (k := 1) (v := nI (i + 1)) hx hb d_R_read_60 hl rfl (iincN (i) 1 1 (by decide)) (by decide) rfl (fun ls hl => ?_)
            have hl : lv_has ls 5 [(4, .int (nI (i + 1))), (3, .int (nI (b + 1))), (0, .ref (ad 18)), (1, .ref x.tpA), (2, .int (nI len))] := hl
            refine lv_goto hx hb d_R_read_63 (tgt := 10) rfl ?_
            exact ih10 _ (by omega) (i + 1) (b + 1) (va_up S i q) (va_up E i n) (va_up V i b) (by omega) (by omega) (lbOk_s il b1 b2 b3 b4 b5) (by rw [← ir, show 7 - i = (6 - i) + 1 by omega, rd_s hr9, if_neg g6, if_pos g7, show 7 - (i + 1) = 6 - i by omega]) rfl H _ ls hP hD hS (lv_sub hl [0, 1, 2, 3, 4] rfl)
          · have g7 := g7
            refine lv_aload_n hx hb d_R_read_47 rfl (lv_at hl 2 rfl) ?_
            refine lv_bipush (v := 7) hx hb d_R_read_48 (by decide) ?_
            refine lv_iload_n hx hb d_R_read_50 rfl (lv_at hl 0 rfl) ?_
            refine jkI (wr := []) (rnV (As := [.int 7, .int (nI b)]) (rest := []) hx hb hml hown hE hK (hN _ _ hS) hP hD (v_refuse l D dA H.size h ad (VS.s_rlab (VS.s_rV (VS.s_rE (VS.s_rS x (va_up S i q)) (va_up E i n)) (va_up V i b)) (i + 1)) 7 (nI b)) (q0 := 32) rfl rfl w600 w599 w601 w602 w596 rfl rfl ⟨⟨by decide, by decide⟩, rfl⟩ ⟨(Nat.le_of_ble_eq_true rfl), (Nat.le_of_ble_eq_true rfl)⟩ rfl hl.1 rfl (Nat.le_of_ble_eq_true rfl) d_R_read_51 ⟨(Nat.le_of_ble_eq_true rfl), (Nat.le_of_ble_eq_true rfl)⟩) hP hD hS hA (fun r8 u9 H locs hp9 hP hD hS => ?_)
            have hP : va_P D vwCl (VW dA h ad (VS.s_rplace (VS.s_rcode (VS.s_rlab (VS.s_rV (VS.s_rE (VS.s_rS x (va_up S i q)) (va_up E i n)) (va_up V i b)) (i + 1)) 7) (nI b))) H := hP
            have hD : va_D A (VW dA h ad (VS.s_rplace (VS.s_rcode (VS.s_rlab (VS.s_rV (VS.s_rE (VS.s_rS x (va_up S i q)) (va_up E i n)) (va_up V i b)) (i + 1)) 7) (nI b))) := hD
            replace hp9 : (-1) = r8 := Eq.symm hp9
            subst hp9
            refine lv_pop hx hb d_R_read_54 rfl ?_
            refine lv_iconst (v := 0) hx hb d_R_read_55 (by decide) ?_
            exact rfZ hx hb hr (bI_nar false) hlk hS (VS.s_rplace (VS.s_rcode (VS.s_rlab (VS.s_rV (VS.s_rE (VS.s_rS x (va_up S i q)) (va_up E i n)) (va_up V i b)) (i + 1)) 7) (nI b)) (Or.inl ⟨7, b, i + 1, _, _, _, by rw [← ir, show 7 - i = (6 - i) + 1 by omega, rd_s hr9, if_neg g6, if_neg g7], rfl, rfl⟩) hP hD (Nat.le_of_ble_eq_true rfl) (Nat.le_of_ble_eq_true rfl) d_R_read_56
        · have g6 := (nI_eq (a := b) (b := len) (by omega) (by omega)).mp g6
          refine lv_iconst (v := 1) hx hb d_R_read_37 (by decide) ?_
          exact rfZ hx hb hr (bI_nar true) hlk hS (VS.s_rlab (VS.s_rV (VS.s_rE (VS.s_rS x (va_up S i q)) (va_up E i n)) (va_up V i b)) (i + 1)) (Or.inr ⟨i + 1, _, _, _, by rw [← ir, show 7 - i = (6 - i) + 1 by omega, rd_s hr9, if_pos g6], lbOk_s il b1 b2 b3 b4 b5, by omega, by omega, rfl, rfl⟩) hP hD (Nat.le_of_ble_eq_true rfl) (Nat.le_of_ble_eq_true rfl) d_R_read_38
  exact L10 _ 0 0 x.rS x.rE x.rV (by omega) (Nat.zero_le _) (fun k hk => absurd hk (Nat.not_lt_zero k)) rfl rfl H _ ls hP hD hS (lv_sub hl [0, 1, 2, 3, 4] rfl)
theorem d_S_init_0 : decode prog_7_method_1_code 0 = .ok (.aload_n 0, 1) := by decide +kernel
theorem d_S_init_1 : decode prog_7_method_1_code 1 = .ok (.invokespecial 3, 3) := by decide +kernel
theorem d_S_init_4 : decode prog_7_method_1_code 4 = .ok (.aload_n 0, 1) := by decide +kernel
theorem d_S_init_5 : decode prog_7_method_1_code 5 = .ok (.aload_n 1, 1) := by decide +kernel
theorem d_S_init_6 : decode prog_7_method_1_code 6 = .ok (.putfield 9, 3) := by decide +kernel
theorem d_S_init_9 : decode prog_7_method_1_code 9 = .ok (.aload_n 0, 1) := by decide +kernel
theorem d_S_init_10 : decode prog_7_method_1_code 10 = .ok (.aload_n 2, 1) := by decide +kernel
theorem d_S_init_11 : decode prog_7_method_1_code 11 = .ok (.putfield 15, 3) := by decide +kernel
theorem d_S_init_14 : decode prog_7_method_1_code 14 = .ok (.aload_n 1, 1) := by decide +kernel
theorem d_S_init_15 : decode prog_7_method_1_code 15 = .ok (.aload_n 2, 1) := by decide +kernel
theorem d_S_init_16 : decode prog_7_method_1_code 16 = .ok (.invokestatic 18, 3) := by decide +kernel
theorem d_S_init_19 : decode prog_7_method_1_code 19 = .ok (.astore_n 3, 1) := by decide +kernel
theorem d_S_init_20 : decode prog_7_method_1_code 20 = .ok (.aload_n 0, 1) := by decide +kernel
theorem d_S_init_21 : decode prog_7_method_1_code 21 = .ok (.new 22, 3) := by decide +kernel
theorem dfW : ∀ j, j < 1 → defaultValue (tyW j) = vp_V [.null] j := by decide +kernel
theorem d_S_init_24 : decode prog_7_method_1_code 24 = .ok (.dup, 1) := by decide +kernel
theorem d_S_init_25 : decode prog_7_method_1_code 25 = .ok (.aload_n 3, 1) := by decide +kernel
theorem d_S_init_26 : decode prog_7_method_1_code 26 = .ok (.iconst 0, 1) := by decide +kernel
theorem d_S_init_27 : decode prog_7_method_1_code 27 = .ok (.aload_n 3, 1) := by decide +kernel
theorem d_S_init_28 : decode prog_7_method_1_code 28 = .ok (.arraylength, 1) := by decide +kernel
theorem d_S_init_29 : decode prog_7_method_1_code 29 = .ok (.invokespecial 24, 3) := by decide +kernel
theorem d_S_init_32 : decode prog_7_method_1_code 32 = .ok (.putfield 27, 3) := by decide +kernel
theorem d_S_init_35 : decode prog_7_method_1_code 35 = .ok (.aload_n 0, 1) := by decide +kernel
theorem d_S_init_36 : decode prog_7_method_1_code 36 = .ok (.new 22, 3) := by decide +kernel
theorem d_S_init_39 : decode prog_7_method_1_code 39 = .ok (.dup, 1) := by decide +kernel
theorem d_S_init_40 : decode prog_7_method_1_code 40 = .ok (.aload_n 3, 1) := by decide +kernel
theorem d_S_init_41 : decode prog_7_method_1_code 41 = .ok (.iconst 0, 1) := by decide +kernel
theorem d_S_init_42 : decode prog_7_method_1_code 42 = .ok (.iconst 0, 1) := by decide +kernel
theorem d_S_init_43 : decode prog_7_method_1_code 43 = .ok (.invokespecial 24, 3) := by decide +kernel
theorem d_S_init_46 : decode prog_7_method_1_code 46 = .ok (.putfield 31, 3) := by decide +kernel
theorem d_S_init_49 : decode prog_7_method_1_code 49 = .ok (.return_, 1) := by decide +kernel
theorem w1301 : Cond.methodLink "SeriesVault$Series" 3 ⟨"java/lang/Object", "<init>", "()V"⟩ ∈ aW := aw_of (tb_4 (List.mem_of_getElem? (i := 234) rfl)) rfl
theorem w1302 : Cond.methodLink "SeriesVault$Series" 18 ⟨"SeriesVault$Series", "joined", "([LSeriesVault$Word;[LSeriesVault$Word;)[B"⟩ ∈ aW := aw_of (tb_4 (List.mem_of_getElem? (i := 235) rfl)) rfl
theorem w1303 : Cond.code ⟨"SeriesVault$Series", "joined", "([LSeriesVault$Word;[LSeriesVault$Word;)[B"⟩ prog_7_method_2_code 6 (some (FieldType.array FieldType.byte)) ∈ aW := aw_of (tb_4 (List.mem_of_getElem? (i := 237) rfl)) rfl
theorem w1304 : Cond.static ⟨"SeriesVault$Series", "joined", "([LSeriesVault$Word;[LSeriesVault$Word;)[B"⟩ ∈ aW := aw_of (tb_4 (List.mem_of_getElem? (i := 236) rfl)) rfl
theorem w1305 : Cond.classLink "SeriesVault$Series" 22 "SeriesVault$Word" ∈ aW := aw_of (tb_5 (List.mem_of_getElem? (i := 2) rfl)) rfl
theorem w856 : Cond.instantiable "SeriesVault$Word" 1 ∈ aW := aw_of (tb_3 (List.mem_of_getElem? (i := 227) rfl)) rfl
theorem w1307 : Cond.methodLink "SeriesVault$Series" 24 ⟨"SeriesVault$Word", "<init>", "([BII)V"⟩ ∈ aW := aw_of (tb_5 (List.mem_of_getElem? (i := 3) rfl)) rfl
theorem w1308 : Cond.code ⟨"SeriesVault$Word", "<init>", "([BII)V"⟩ prog_12_method_1_code 4 none ∈ aW := aw_of (tb_3 (List.mem_of_getElem? (i := 230) rfl)) rfl
theorem w1309 : Cond.instanceMethod ⟨"SeriesVault$Word", "<init>", "([BII)V"⟩ ∈ aW := aw_of (tb_3 (List.mem_of_getElem? (i := 229) rfl)) rfl
set_option maxHeartbeats 4000000 in
set_option maxRecDepth 100000 in
theorem v_Sinit (l : Launch) (D : va_G) (dA : Nat → ClassId) (sz : Nat) (ws : va_W) (sp : Nat) (na : Nat) (va : Nat) (S : List LB) (fn : Nat → Option Nat) (fv : Nat → Option Nat) (n2 : (na, .inl (dA 6, S.length, .inr (.inr (.inr (.inr fn))))) ∈ ws) (n3 : (va, .inl (dA 6, S.length, .inr (.inr (.inr (.inr fv))))) ∈ ws) (hel : ∀ i, i < S.length → ∃ p q : Nat, fn i = some p ∧ isWo dA ws p (lab S i).1 ∧ fv i = some q ∧ isWo dA ws q (lab S i).2) (hso : serOk S) : Met l ⟨"SeriesVault$Series", "<init>", "([LSeriesVault$Word;[LSeriesVault$Word;)V"⟩ [Cond.code ⟨"SeriesVault$Series", "<init>", "([LSeriesVault$Word;[LSeriesVault$Word;)V"⟩ prog_7_method_1_code 4 none] { frames := 5, cells := 5, slots := 2 * (joinT S).length + 2, locals := 109 } (pC D dA [.ref sp, .ref na, .ref va] ([(sp, .inr (11, [.null, .null, .null, .null]))] ++ (ws)) sz) (va_Qv (fun (u9 : Nat × Nat × Nat × Nat × (Nat → Int32) × (Nat → Int32)) => byteF u9.2.2.2.2.1 ∧ preF u9.2.2.2.2.1 (joinT S) ∧ byteF u9.2.2.2.2.2) (fun (u9 : Nat × Nat × Nat × Nat × (Nat → Int32) × (Nat → Int32)) t9 => bW D (va_A ([(sp, .inr (11, [.null, .null, .null, .null]))] ++ (ws)) sz) ([(u9.2.1, .inr (10, [.ref u9.2.2.1]))] ++ ([(u9.2.2.1, .inl (dA 0, (joinT S).length, .inl u9.2.2.2.2.1))] ++ ([(u9.1, .inr (10, [.ref u9.2.2.2.1]))] ++ ([(u9.2.2.2.1, .inl (dA 0, 0, .inl u9.2.2.2.2.2))] ++ ([(sp, .inr (11, [.ref na, .ref va, .ref u9.1, .ref u9.2.1]))] ++ (ws)))))) t9) (va_A ([(sp, .inr (11, [.null, .null, .null, .null]))] ++ (ws)) sz)) 5 (2 * (joinT S).length + 2) (va_A ([(sp, .inr (11, [.null, .null, .null, .null]))] ++ (ws)) sz) := by
  refine mkC (y := ⟨"SeriesVault$Series", "<init>", "([LSeriesVault$Word;[LSeriesVault$Word;)V"⟩) (cc := prog_7_method_1_code) (maxL := 4) (av := [.ref sp, .ref na, .ref va]) (ws := [(sp, .inr (11, [.null, .null, .null, .null]))] ++ (ws)) (sz := sz) (Qc := fun A => va_Qv (fun (u9 : Nat × Nat × Nat × Nat × (Nat → Int32) × (Nat → Int32)) => byteF u9.2.2.2.2.1 ∧ preF u9.2.2.2.2.1 (joinT S) ∧ byteF u9.2.2.2.2.2) (fun (u9 : Nat × Nat × Nat × Nat × (Nat → Int32) × (Nat → Int32)) t9 => bW D A ([(u9.2.1, .inr (10, [.ref u9.2.2.1]))] ++ ([(u9.2.2.1, .inl (dA 0, (joinT S).length, .inl u9.2.2.2.2.1))] ++ ([(u9.1, .inr (10, [.ref u9.2.2.2.1]))] ++ ([(u9.2.2.2.1, .inl (dA 0, 0, .inl u9.2.2.2.2.2))] ++ ([(sp, .inr (11, [.ref na, .ref va, .ref u9.1, .ref u9.2.1]))] ++ (ws)))))) t9) A) (by decide) (Nat.le_of_ble_eq_true rfl) ?_
  intro A p e s m below meth c ls hsz hB
  obtain ⟨hx, hb, hr, hml, hown, hin, hlk, hE, hK, hP, hD, hS, hA, hN, hl⟩ := hB
  have hown : s.vm.findClass "SeriesVault$Series" = some m.cls := hown
  have hl : lv_has ls 4 [(0, .ref sp), (1, .ref na), (2, .ref va)] := hl
  obtain ⟨H, hH⟩ : ∃ z, z = s.heap := ⟨_, rfl⟩
  have hP : va_P D vwCl ([(sp, .inr (11, [.null, .null, .null, .null]))] ++ (ws)) H := by rw [hH]; exact hP
  have hS : va_S A s.heap H [] := by rw [hH]; exact hS
  rw [← hH]
  have jl := jt_le hso
  refine lv_aload_n hx hb d_S_init_0 rfl (lv_at hl 0 rfl) ?_
  refine oI hx hb hown hE w1301 w182 w183 (hl.1.trans hml.symm) d_S_init_1 (Nat.le_of_ble_eq_true rfl) (Nat.le_of_ble_eq_true rfl) ?_
  refine lv_aload_n hx hb d_S_init_4 rfl (lv_at hl 0 rfl) ?_
  refine lv_aload_n hx hb d_S_init_5 rfl (lv_at hl 1 rfl) ?_
  refine pFF (v := .ref na) hx hb hown hE hK hP hD hS 0 rfl rfl layS tyS tokS nmS 0 (by decide) w1278 rfl hin rfl rfl rfl (Nat.le_of_ble_eq_true rfl) d_S_init_6 (fun H locs hP hD hS => ?_)
  have hP : va_P D vwCl ([(sp, .inr (11, [.ref na, .null, .null, .null]))] ++ (ws)) H := hP
  have hD : va_D A ([(sp, .inr (11, [.ref na, .null, .null, .null]))] ++ (ws)) := hD
  refine lv_aload_n hx hb d_S_init_9 rfl (lv_at hl 0 rfl) ?_
  refine lv_aload_n hx hb d_S_init_10 rfl (lv_at hl 2 rfl) ?_
  refine pFF (v := .ref va) hx hb hown hE hK hP hD hS 0 rfl rfl layS tyS tokS nmS 1 (by decide) w1285 rfl hin rfl rfl rfl (Nat.le_of_ble_eq_true rfl) d_S_init_11 (fun H locs hP hD hS => ?_)
  have hP : va_P D vwCl ([(sp, .inr (11, [.ref na, .ref va, .null, .null]))] ++ (ws)) H := hP
  have hD : va_D A ([(sp, .inr (11, [.ref na, .ref va, .null, .null]))] ++ (ws)) := hD
  refine lv_aload_n hx hb d_S_init_14 rfl (lv_at hl 1 rfl) ?_
  refine lv_aload_n hx hb d_S_init_15 rfl (lv_at hl 2 rfl) ?_
  refine jkR (wr := []) (rnS (As := [.ref na, .ref va]) (rest := []) hx hb hml hown hE hK (hN _ _ hS) hP hD (v_joined l D dA H.size ([(sp, .inr (11, [.ref na, .ref va, .null, .null]))] ++ (ws)) na va S fn fv (List.mem_append_right _ n2) (List.mem_append_right _ n3) (fun k hk => by obtain ⟨p9, q9, a1, a2, a3, a4⟩ := hel k hk; exact ⟨p9, q9, a1, isWo_m (fun _ hm => (List.mem_append_right _ hm)) a2, a3, isWo_m (fun _ hm => (List.mem_append_right _ hm)) a4⟩) hso) w1303 w1302 w1304 w1288 rfl rfl ⟨⟨by decide, by decide⟩, rfl⟩ ⟨(Nat.le_of_ble_eq_true rfl), (Nat.le_of_ble_eq_true rfl)⟩ rfl hl.1 rfl (Nat.le_of_ble_eq_true rfl) d_S_init_16 ⟨(show 0 + 1 ≤ 5 by omega), (show 0 + ((joinT S).length) ≤ 2 * (joinT S).length + 2 by omega)⟩) hP hD hS hA (fun u1 rw0 H locs hp9 hP hD hS => ?_)
  obtain ⟨g0, h9u⟩ : ∃ z9, z9 = u1 := ⟨_, rfl⟩
  subst h9u
  have hP : va_P D vwCl ([(rw0, .inl (dA 0, (joinT S).length, .inl g0))] ++ ([(sp, .inr (11, [.ref na, .ref va, .null, .null]))] ++ (ws))) H := hP
  have hD : va_D A ([(rw0, .inl (dA 0, (joinT S).length, .inl g0))] ++ ([(sp, .inr (11, [.ref na, .ref va, .null, .null]))] ++ (ws))) := hD
  obtain ⟨f_y_2, f_c_3⟩ := hp9
  refine lv_astore_n hx hb d_S_init_19 rfl hl (by decide) rfl (fun ls hl => ?_)
  have hl : lv_has ls 4 [(3, .ref rw0), (0, .ref sp), (1, .ref na), (2, .ref va)] := hl
  refine lv_aload_n hx hb d_S_init_20 rfl (lv_at hl 1 rfl) ?_
  refine nOf hx hb hown hE hK hP hD hS hA (ci := 10) rfl layW tyW tokW w1305 w856 w1281 (fs := [.null]) dfW (show (0 + 1) + 1 ≤ 5 by omega) (show (0 + ((joinT S).length)) + 1 ≤ 2 * (joinT S).length + 2 by omega) d_S_init_21 (fun tx H hP hD hS => ?_)
  have hP : va_P D vwCl ([(tx, .inr (10, [.null]))] ++ ([(rw0, .inl (dA 0, (joinT S).length, .inl g0))] ++ ([(sp, .inr (11, [.ref na, .ref va, .null, .null]))] ++ (ws)))) H := hP
  have hD : va_D A ([(tx, .inr (10, [.null]))] ++ ([(rw0, .inl (dA 0, (joinT S).length, .inl g0))] ++ ([(sp, .inr (11, [.ref na, .ref va, .null, .null]))] ++ (ws)))) := hD
  refine lv_dup hx hb d_S_init_24 rfl ?_
  refine lv_aload_n hx hb d_S_init_25 rfl (lv_at hl 0 rfl) ?_
  refine lv_iconst (v := 0) hx hb d_S_init_26 (by decide) ?_
  refine lv_aload_n hx hb d_S_init_27 rfl (lv_at hl 0 rfl) ?_
  refine va_alen (v := nI ((joinT S).length)) hx hb hK hP (1) 0 rfl rfl rfl d_S_init_28 ?_
  refine jkV (wr := []) (rnI (As := [.ref rw0, .int 0, .int (nI ((joinT S).length))]) (rest := [.ref tx, .ref sp]) hx hb hml hown hE hK (hN _ _ hS) hP hD (v_Winit l D dA H.size ([(rw0, .inl (dA 0, (joinT S).length, .inl g0))] ++ ([(sp, .inr (11, [.ref na, .ref va, .null, .null]))] ++ (ws))) tx rw0 ((joinT S).length) g0 0 ((joinT S).length) (List.mem_of_getElem? (i := 0) rfl) f_y_2 (show 0 ≤ ((joinT S).length) from by omega) (show ((joinT S).length) ≤ ((joinT S).length) from by omega) (show ((joinT S).length) ≤ 131072 from by omega)) w1308 w1307 w1309 w1281 rfl rfl rfl ⟨⟨by decide, by decide⟩, rfl⟩ ⟨(Nat.le_of_ble_eq_true rfl), (Nat.le_of_ble_eq_true rfl)⟩ rfl hl.1 rfl (Nat.le_of_ble_eq_true rfl) d_S_init_29 ⟨(show 0 + 1 + 1 + 1 ≤ 5 by omega), (show 0 + ((joinT S).length) + 1 + (((joinT S).length) - 0) ≤ 2 * (joinT S).length + 2 by omega)⟩) hP hD hS hA (fun u5 H locs hp9 hP hD hS => ?_)
  obtain ⟨bt, gt⟩ := u5
  have hP : va_P D vwCl ([(bt, .inl (dA 0, ((joinT S).length) - 0, .inl gt))] ++ ([(tx, .inr (10, [.ref bt]))] ++ ([(rw0, .inl (dA 0, (joinT S).length, .inl g0))] ++ ([(sp, .inr (11, [.ref na, .ref va, .null, .null]))] ++ (ws))))) H := hP
  have hD : va_D A ([(bt, .inl (dA 0, ((joinT S).length) - 0, .inl gt))] ++ ([(tx, .inr (10, [.ref bt]))] ++ ([(rw0, .inl (dA 0, (joinT S).length, .inl g0))] ++ ([(sp, .inr (11, [.ref na, .ref va, .null, .null]))] ++ (ws))))) := hD
  obtain ⟨f_y_6, f_hg_7⟩ := hp9
  refine pFF (v := .ref tx) hx hb hown hE hK hP hD hS 3 rfl rfl layS tyS tokS nmS 3 (by decide) w1276 rfl hin rfl rfl rfl (Nat.le_of_ble_eq_true rfl) d_S_init_32 (fun H locs hP hD hS => ?_)
  have hP : va_P D vwCl ([(bt, .inl (dA 0, ((joinT S).length) - 0, .inl gt))] ++ ([(tx, .inr (10, [.ref bt]))] ++ ([(rw0, .inl (dA 0, (joinT S).length, .inl g0))] ++ ([(sp, .inr (11, [.ref na, .ref va, .null, .ref tx]))] ++ (ws))))) H := hP
  have hD : va_D A ([(bt, .inl (dA 0, ((joinT S).length) - 0, .inl gt))] ++ ([(tx, .inr (10, [.ref bt]))] ++ ([(rw0, .inl (dA 0, (joinT S).length, .inl g0))] ++ ([(sp, .inr (11, [.ref na, .ref va, .null, .ref tx]))] ++ (ws))))) := hD
  refine lv_aload_n hx hb d_S_init_35 rfl (lv_at hl 1 rfl) ?_
  refine nOf hx hb hown hE hK hP hD hS hA (ci := 10) rfl layW tyW tokW w1305 w856 w1281 (fs := [.null]) dfW (show (0 + 1 + 1 + 1) + 1 ≤ 5 by omega) (show (0 + ((joinT S).length) + 1 + (((joinT S).length) - 0)) + 1 ≤ 2 * (joinT S).length + 2 by omega) d_S_init_36 (fun no H hP hD hS => ?_)
  have hP : va_P D vwCl ([(no, .inr (10, [.null]))] ++ ([(bt, .inl (dA 0, ((joinT S).length) - 0, .inl gt))] ++ ([(tx, .inr (10, [.ref bt]))] ++ ([(rw0, .inl (dA 0, (joinT S).length, .inl g0))] ++ ([(sp, .inr (11, [.ref na, .ref va, .null, .ref tx]))] ++ (ws)))))) H := hP
  have hD : va_D A ([(no, .inr (10, [.null]))] ++ ([(bt, .inl (dA 0, ((joinT S).length) - 0, .inl gt))] ++ ([(tx, .inr (10, [.ref bt]))] ++ ([(rw0, .inl (dA 0, (joinT S).length, .inl g0))] ++ ([(sp, .inr (11, [.ref na, .ref va, .null, .ref tx]))] ++ (ws)))))) := hD
  refine lv_dup hx hb d_S_init_39 rfl ?_
  refine lv_aload_n hx hb d_S_init_40 rfl (lv_at hl 0 rfl) ?_
  refine lv_iconst (v := 0) hx hb d_S_init_41 (by decide) ?_
  refine lv_iconst (v := 0) hx hb d_S_init_42 (by decide) ?_
  refine jkV (wr := []) (rnI (As := [.ref rw0, .int 0, .int 0]) (rest := [.ref no, .ref sp]) hx hb hml hown hE hK (hN _ _ hS) hP hD (v_Winit l D dA H.size ([(bt, .inl (dA 0, ((joinT S).length) - 0, .inl gt))] ++ ([(tx, .inr (10, [.ref bt]))] ++ ([(rw0, .inl (dA 0, (joinT S).length, .inl g0))] ++ ([(sp, .inr (11, [.ref na, .ref va, .null, .ref tx]))] ++ (ws))))) no rw0 ((joinT S).length) g0 0 0 (List.mem_of_getElem? (i := 2) rfl) f_y_2 (show 0 ≤ 0 from by omega) (show 0 ≤ ((joinT S).length) from by omega) (show ((joinT S).length) ≤ 131072 from by omega)) w1308 w1307 w1309 w1281 rfl rfl rfl ⟨⟨by decide, by decide⟩, rfl⟩ ⟨(Nat.le_of_ble_eq_true rfl), (Nat.le_of_ble_eq_true rfl)⟩ rfl hl.1 rfl (Nat.le_of_ble_eq_true rfl) d_S_init_43 ⟨(show 0 + 1 + 1 + 1 + 1 + 1 ≤ 5 by omega), (show 0 + ((joinT S).length) + 1 + (((joinT S).length) - 0) + 1 + (0 - 0) ≤ 2 * (joinT S).length + 2 by omega)⟩) hP hD hS hA (fun u9 H locs hp9 hP hD hS => ?_)
  obtain ⟨bn, gn⟩ := u9
  have hP : va_P D vwCl ([(bn, .inl (dA 0, 0 - 0, .inl gn))] ++ ([(no, .inr (10, [.ref bn]))] ++ ([(bt, .inl (dA 0, ((joinT S).length) - 0, .inl gt))] ++ ([(tx, .inr (10, [.ref bt]))] ++ ([(rw0, .inl (dA 0, (joinT S).length, .inl g0))] ++ ([(sp, .inr (11, [.ref na, .ref va, .null, .ref tx]))] ++ (ws))))))) H := hP
  have hD : va_D A ([(bn, .inl (dA 0, 0 - 0, .inl gn))] ++ ([(no, .inr (10, [.ref bn]))] ++ ([(bt, .inl (dA 0, ((joinT S).length) - 0, .inl gt))] ++ ([(tx, .inr (10, [.ref bt]))] ++ ([(rw0, .inl (dA 0, (joinT S).length, .inl g0))] ++ ([(sp, .inr (11, [.ref na, .ref va, .null, .ref tx]))] ++ (ws))))))) := hD
  obtain ⟨f_y_10, f_hg_11⟩ := hp9
  refine pFF (v := .ref no) hx hb hown hE hK hP hD hS 5 rfl rfl layS tyS tokS nmS 2 (by decide) w1279 rfl hin rfl rfl rfl (Nat.le_of_ble_eq_true rfl) d_S_init_46 (fun H locs hP hD hS => ?_)
  have hP : va_P D vwCl ([(bn, .inl (dA 0, 0 - 0, .inl gn))] ++ ([(no, .inr (10, [.ref bn]))] ++ ([(bt, .inl (dA 0, ((joinT S).length) - 0, .inl gt))] ++ ([(tx, .inr (10, [.ref bt]))] ++ ([(rw0, .inl (dA 0, (joinT S).length, .inl g0))] ++ ([(sp, .inr (11, [.ref na, .ref va, .ref no, .ref tx]))] ++ (ws))))))) H := hP
  have hD : va_D A ([(bn, .inl (dA 0, 0 - 0, .inl gn))] ++ ([(no, .inr (10, [.ref bn]))] ++ ([(bt, .inl (dA 0, ((joinT S).length) - 0, .inl gt))] ++ ([(tx, .inr (10, [.ref bt]))] ++ ([(rw0, .inl (dA 0, (joinT S).length, .inl g0))] ++ ([(sp, .inr (11, [.ref na, .ref va, .ref no, .ref tx]))] ++ (ws))))))) := hD
  have hP := sbP (show List.Sublist (α := Nat × va_E) ([(bn, .inl (dA 0, 0 - 0, .inl gn))] ++ ([(no, .inr (10, [.ref bn]))] ++ ([(bt, .inl (dA 0, ((joinT S).length) - 0, .inl gt))] ++ ([(tx, .inr (10, [.ref bt]))] ++ ([(sp, .inr (11, [.ref na, .ref va, .ref no, .ref tx]))] ++ (ws)))))) ([(bn, .inl (dA 0, 0 - 0, .inl gn))] ++ ([(no, .inr (10, [.ref bn]))] ++ ([(bt, .inl (dA 0, ((joinT S).length) - 0, .inl gt))] ++ ([(tx, .inr (10, [.ref bt]))] ++ ([(rw0, .inl (dA 0, (joinT S).length, .inl g0))] ++ ([(sp, .inr (11, [.ref na, .ref va, .ref no, .ref tx]))] ++ (ws))))))) from List.Sublist.append (List.Sublist.refl _) (List.Sublist.append (List.Sublist.refl _) (List.Sublist.append (List.Sublist.refl _) (List.Sublist.append (List.Sublist.refl _) (List.sublist_append_of_sublist_right (List.Sublist.append (List.Sublist.refl _) (List.Sublist.refl _))))))) hP
  have hD := sbD (show List.Sublist (α := Nat × va_E) ([(bn, .inl (dA 0, 0 - 0, .inl gn))] ++ ([(no, .inr (10, [.ref bn]))] ++ ([(bt, .inl (dA 0, ((joinT S).length) - 0, .inl gt))] ++ ([(tx, .inr (10, [.ref bt]))] ++ ([(sp, .inr (11, [.ref na, .ref va, .ref no, .ref tx]))] ++ (ws)))))) ([(bn, .inl (dA 0, 0 - 0, .inl gn))] ++ ([(no, .inr (10, [.ref bn]))] ++ ([(bt, .inl (dA 0, ((joinT S).length) - 0, .inl gt))] ++ ([(tx, .inr (10, [.ref bt]))] ++ ([(rw0, .inl (dA 0, (joinT S).length, .inl g0))] ++ ([(sp, .inr (11, [.ref na, .ref va, .ref no, .ref tx]))] ++ (ws))))))) from List.Sublist.append (List.Sublist.refl _) (List.Sublist.append (List.Sublist.refl _) (List.Sublist.append (List.Sublist.refl _) (List.Sublist.append (List.Sublist.refl _) (List.sublist_append_of_sublist_right (List.Sublist.append (List.Sublist.refl _) (List.Sublist.refl _))))))) hD
  have hP := pmP (show List.Perm (α := Nat × va_E) ([(bn, .inl (dA 0, 0 - 0, .inl gn))] ++ ([(no, .inr (10, [.ref bn]))] ++ ([(bt, .inl (dA 0, ((joinT S).length) - 0, .inl gt))] ++ ([(tx, .inr (10, [.ref bt]))] ++ ([(sp, .inr (11, [.ref na, .ref va, .ref no, .ref tx]))] ++ (ws)))))) ([(tx, .inr (10, [.ref bt]))] ++ ([(bn, .inl (dA 0, 0 - 0, .inl gn))] ++ ([(no, .inr (10, [.ref bn]))] ++ ([(bt, .inl (dA 0, ((joinT S).length) - 0, .inl gt))] ++ ([(sp, .inr (11, [.ref na, .ref va, .ref no, .ref tx]))] ++ (ws)))))) from (List.Perm.append_left ([(bn, .inl (dA 0, 0 - 0, .inl gn))]) ((List.Perm.append_left ([(no, .inr (10, [.ref bn]))]) (List.perm_append_comm_assoc ([(bt, .inl (dA 0, ((joinT S).length) - 0, .inl gt))]) ([(tx, .inr (10, [.ref bt]))]) ([(sp, .inr (11, [.ref na, .ref va, .ref no, .ref tx]))] ++ (ws)))).trans (List.perm_append_comm_assoc ([(no, .inr (10, [.ref bn]))]) ([(tx, .inr (10, [.ref bt]))]) ([(bt, .inl (dA 0, ((joinT S).length) - 0, .inl gt))] ++ ([(sp, .inr (11, [.ref na, .ref va, .ref no, .ref tx]))] ++ (ws)))))).trans (List.perm_append_comm_assoc ([(bn, .inl (dA 0, 0 - 0, .inl gn))]) ([(tx, .inr (10, [.ref bt]))]) ([(no, .inr (10, [.ref bn]))] ++ ([(bt, .inl (dA 0, ((joinT S).length) - 0, .inl gt))] ++ ([(sp, .inr (11, [.ref na, .ref va, .ref no, .ref tx]))] ++ (ws)))))) hP
  have hD := pmD (show List.Perm (α := Nat × va_E) ([(bn, .inl (dA 0, 0 - 0, .inl gn))] ++ ([(no, .inr (10, [.ref bn]))] ++ ([(bt, .inl (dA 0, ((joinT S).length) - 0, .inl gt))] ++ ([(tx, .inr (10, [.ref bt]))] ++ ([(sp, .inr (11, [.ref na, .ref va, .ref no, .ref tx]))] ++ (ws)))))) ([(tx, .inr (10, [.ref bt]))] ++ ([(bn, .inl (dA 0, 0 - 0, .inl gn))] ++ ([(no, .inr (10, [.ref bn]))] ++ ([(bt, .inl (dA 0, ((joinT S).length) - 0, .inl gt))] ++ ([(sp, .inr (11, [.ref na, .ref va, .ref no, .ref tx]))] ++ (ws)))))) from (List.Perm.append_left ([(bn, .inl (dA 0, 0 - 0, .inl gn))]) ((List.Perm.append_left ([(no, .inr (10, [.ref bn]))]) (List.perm_append_comm_assoc ([(bt, .inl (dA 0, ((joinT S).length) - 0, .inl gt))]) ([(tx, .inr (10, [.ref bt]))]) ([(sp, .inr (11, [.ref na, .ref va, .ref no, .ref tx]))] ++ (ws)))).trans (List.perm_append_comm_assoc ([(no, .inr (10, [.ref bn]))]) ([(tx, .inr (10, [.ref bt]))]) ([(bt, .inl (dA 0, ((joinT S).length) - 0, .inl gt))] ++ ([(sp, .inr (11, [.ref na, .ref va, .ref no, .ref tx]))] ++ (ws)))))).trans (List.perm_append_comm_assoc ([(bn, .inl (dA 0, 0 - 0, .inl gn))]) ([(tx, .inr (10, [.ref bt]))]) ([(no, .inr (10, [.ref bn]))] ++ ([(bt, .inl (dA 0, ((joinT S).length) - 0, .inl gt))] ++ ([(sp, .inr (11, [.ref na, .ref va, .ref no, .ref tx]))] ++ (ws)))))) hD
  have hP := pmP (show List.Perm (α := Nat × va_E) ([(tx, .inr (10, [.ref bt]))] ++ ([(bn, .inl (dA 0, 0 - 0, .inl gn))] ++ ([(no, .inr (10, [.ref bn]))] ++ ([(bt, .inl (dA 0, ((joinT S).length) - 0, .inl gt))] ++ ([(sp, .inr (11, [.ref na, .ref va, .ref no, .ref tx]))] ++ (ws)))))) ([(tx, .inr (10, [.ref bt]))] ++ ([(bt, .inl (dA 0, ((joinT S).length) - 0, .inl gt))] ++ ([(bn, .inl (dA 0, 0 - 0, .inl gn))] ++ ([(no, .inr (10, [.ref bn]))] ++ ([(sp, .inr (11, [.ref na, .ref va, .ref no, .ref tx]))] ++ (ws)))))) from List.Perm.append_left ([(tx, .inr (10, [.ref bt]))]) ((List.Perm.append_left ([(bn, .inl (dA 0, 0 - 0, .inl gn))]) (List.perm_append_comm_assoc ([(no, .inr (10, [.ref bn]))]) ([(bt, .inl (dA 0, ((joinT S).length) - 0, .inl gt))]) ([(sp, .inr (11, [.ref na, .ref va, .ref no, .ref tx]))] ++ (ws)))).trans (List.perm_append_comm_assoc ([(bn, .inl (dA 0, 0 - 0, .inl gn))]) ([(bt, .inl (dA 0, ((joinT S).length) - 0, .inl gt))]) ([(no, .inr (10, [.ref bn]))] ++ ([(sp, .inr (11, [.ref na, .ref va, .ref no, .ref tx]))] ++ (ws)))))) hP
  have hD := pmD (show List.Perm (α := Nat × va_E) ([(tx, .inr (10, [.ref bt]))] ++ ([(bn, .inl (dA 0, 0 - 0, .inl gn))] ++ ([(no, .inr (10, [.ref bn]))] ++ ([(bt, .inl (dA 0, ((joinT S).length) - 0, .inl gt))] ++ ([(sp, .inr (11, [.ref na, .ref va, .ref no, .ref tx]))] ++ (ws)))))) ([(tx, .inr (10, [.ref bt]))] ++ ([(bt, .inl (dA 0, ((joinT S).length) - 0, .inl gt))] ++ ([(bn, .inl (dA 0, 0 - 0, .inl gn))] ++ ([(no, .inr (10, [.ref bn]))] ++ ([(sp, .inr (11, [.ref na, .ref va, .ref no, .ref tx]))] ++ (ws)))))) from List.Perm.append_left ([(tx, .inr (10, [.ref bt]))]) ((List.Perm.append_left ([(bn, .inl (dA 0, 0 - 0, .inl gn))]) (List.perm_append_comm_assoc ([(no, .inr (10, [.ref bn]))]) ([(bt, .inl (dA 0, ((joinT S).length) - 0, .inl gt))]) ([(sp, .inr (11, [.ref na, .ref va, .ref no, .ref tx]))] ++ (ws)))).trans (List.perm_append_comm_assoc ([(bn, .inl (dA 0, 0 - 0, .inl gn))]) ([(bt, .inl (dA 0, ((joinT S).length) - 0, .inl gt))]) ([(no, .inr (10, [.ref bn]))] ++ ([(sp, .inr (11, [.ref na, .ref va, .ref no, .ref tx]))] ++ (ws)))))) hD
  have hP := pmP (show List.Perm (α := Nat × va_E) ([(tx, .inr (10, [.ref bt]))] ++ ([(bt, .inl (dA 0, ((joinT S).length) - 0, .inl gt))] ++ ([(bn, .inl (dA 0, 0 - 0, .inl gn))] ++ ([(no, .inr (10, [.ref bn]))] ++ ([(sp, .inr (11, [.ref na, .ref va, .ref no, .ref tx]))] ++ (ws)))))) ([(tx, .inr (10, [.ref bt]))] ++ ([(bt, .inl (dA 0, ((joinT S).length) - 0, .inl gt))] ++ ([(no, .inr (10, [.ref bn]))] ++ ([(bn, .inl (dA 0, 0 - 0, .inl gn))] ++ ([(sp, .inr (11, [.ref na, .ref va, .ref no, .ref tx]))] ++ (ws)))))) from List.Perm.append_left ([(tx, .inr (10, [.ref bt]))]) (List.Perm.append_left ([(bt, .inl (dA 0, ((joinT S).length) - 0, .inl gt))]) (List.perm_append_comm_assoc ([(bn, .inl (dA 0, 0 - 0, .inl gn))]) ([(no, .inr (10, [.ref bn]))]) ([(sp, .inr (11, [.ref na, .ref va, .ref no, .ref tx]))] ++ (ws))))) hP
  have hD := pmD (show List.Perm (α := Nat × va_E) ([(tx, .inr (10, [.ref bt]))] ++ ([(bt, .inl (dA 0, ((joinT S).length) - 0, .inl gt))] ++ ([(bn, .inl (dA 0, 0 - 0, .inl gn))] ++ ([(no, .inr (10, [.ref bn]))] ++ ([(sp, .inr (11, [.ref na, .ref va, .ref no, .ref tx]))] ++ (ws)))))) ([(tx, .inr (10, [.ref bt]))] ++ ([(bt, .inl (dA 0, ((joinT S).length) - 0, .inl gt))] ++ ([(no, .inr (10, [.ref bn]))] ++ ([(bn, .inl (dA 0, 0 - 0, .inl gn))] ++ ([(sp, .inr (11, [.ref na, .ref va, .ref no, .ref tx]))] ++ (ws)))))) from List.Perm.append_left ([(tx, .inr (10, [.ref bt]))]) (List.Perm.append_left ([(bt, .inl (dA 0, ((joinT S).length) - 0, .inl gt))]) (List.perm_append_comm_assoc ([(bn, .inl (dA 0, 0 - 0, .inl gn))]) ([(no, .inr (10, [.ref bn]))]) ([(sp, .inr (11, [.ref na, .ref va, .ref no, .ref tx]))] ++ (ws))))) hD
  exact rfV hx hb hr hlk hS (⟨no, tx, bt, bn, gt, gn⟩) ⟨f_y_6, fun q hq => (f_hg_7 q hq).trans (by rw [Nat.zero_add]; exact f_c_3 q hq), f_y_10⟩ hP hD (show 0 + 1 + 1 + 1 + 1 + 1 ≤ 5 by omega) (show 0 + ((joinT S).length) + 1 + (((joinT S).length) - 0) + 1 + (0 - 0) ≤ 2 * (joinT S).length + 2 by omega) d_S_init_49
