theorem v_Tjoined (l : Launch) (D : va_G) (dA : Nat → ClassId) (sz : Nat) (sg : Int32) (u : Int64) (v : Int64) (hop : isOp sg) : Met l ⟨"SeriesVault$Table", "joined", "(IJJ)J"⟩ [Cond.code ⟨"SeriesVault$Table", "joined", "(IJJ)J"⟩ prog_11_method_20_code 5 (some FieldType.long)] { frames := 1, cells := 0, slots := 0, locals := 0 } (pC D dA [.int sg, .long u, .long v] ([]) sz) (va_Ql (fun (r9 : Int64) (u9 : Unit) => r9 = jnVl sg u v) (fun (u9 : Unit) t9 => bW D (va_A ([]) sz) ([]) t9) (va_A ([]) sz)) 0 0 (va_A ([]) sz) := by
  rcases hop with h | h | h | h | h <;> subst h
  · exact v_Tjoined_43 l D dA sz u v
  · exact v_Tjoined_45 l D dA sz u v
  · exact v_Tjoined_42 l D dA sz u v
  · exact v_Tjoined_47 l D dA sz u v
  · exact v_Tjoined_37 l D dA sz u v
section JW
variable {sg : Int32} {both : Int64} {L R f : Nat → Int64} {b w : Nat} {st : Int64} {g : Nat → Int64}
theorem jrW_t (h : jnS sg both (R w) w = true) (e : jrW sg both L R f b w = (st, g)) : jrW sg both L R f b (w + 1) = (st ||| bitL w, va_up g (b + w) (jnVl sg (L w) (R w))) := by
  show (if _ then _ else _) = _
  rw [if_pos h, e]
theorem jrW_f (h : jnS sg both (R w) w = false) (e : jrW sg both L R f b w = (st, g)) : jrW sg both L R f b (w + 1) = (st, g) := by
  show (if _ then _ else _) = _
  rw [if_neg (by rw [h]; decide), e]
end JW
theorem jrW_at {sg : Int32} {both : Int64} {L R f : Nat → Int64} {b : Nat} : ∀ {w q : Nat}, (q < b ∨ b + w ≤ q) → (jrW sg both L R f b w).2 q = f q
  | 0, q, _ => rfl
  | w + 1, q, h => by
    cases e : jnS sg both (R w) w with
    | false => rw [jrW_f e rfl]; exact jrW_at (by omega)
    | true => rw [jrW_t e rfl]; show va_up _ _ _ q = _; rw [va_up_ne _ _ (by omega)]; exact jrW_at (by omega)
def dvB (sg : Int32) : Bool := decide (sg = 47) || decide (sg = 37)
theorem d_T_joinRow_0 : decode prog_11_method_19_code 0 = .ok (.aload_n 2, 1) := by decide +kernel
theorem d_T_joinRow_1 : decode prog_11_method_19_code 1 = .ok (.getfield 23, 3) := by decide +kernel
theorem d_T_joinRow_4 : decode prog_11_method_19_code 4 = .ok (.iload_n 3, 1) := by decide +kernel
theorem d_T_joinRow_5 : decode prog_11_method_19_code 5 = .ok (.laload, 1) := by decide +kernel
theorem d_T_joinRow_6 : decode prog_11_method_19_code 6 = .ok (.aload 4, 2) := by decide +kernel
theorem d_T_joinRow_8 : decode prog_11_method_19_code 8 = .ok (.getfield 23, 3) := by decide +kernel
theorem d_T_joinRow_11 : decode prog_11_method_19_code 11 = .ok (.iload 5, 2) := by decide +kernel
theorem d_T_joinRow_13 : decode prog_11_method_19_code 13 = .ok (.laload, 1) := by decide +kernel
theorem d_T_joinRow_14 : decode prog_11_method_19_code 14 = .ok (.land, 1) := by decide +kernel
theorem d_T_joinRow_15 : decode prog_11_method_19_code 15 = .ok (.lstore 7, 2) := by decide +kernel
theorem d_T_joinRow_17 : decode prog_11_method_19_code 17 = .ok (.lconst 0, 1) := by decide +kernel
theorem d_T_joinRow_18 : decode prog_11_method_19_code 18 = .ok (.lstore 9, 2) := by decide +kernel
theorem d_T_joinRow_20 : decode prog_11_method_19_code 20 = .ok (.iconst 0, 1) := by decide +kernel
theorem d_T_joinRow_21 : decode prog_11_method_19_code 21 = .ok (.istore 11, 2) := by decide +kernel
theorem d_T_joinRow_23 : decode prog_11_method_19_code 23 = .ok (.iload 11, 2) := by decide +kernel
theorem d_T_joinRow_25 : decode prog_11_method_19_code 25 = .ok (.aload_n 0, 1) := by decide +kernel
theorem d_T_joinRow_26 : decode prog_11_method_19_code 26 = .ok (.getfield 30, 3) := by decide +kernel
theorem d_T_joinRow_29 : decode prog_11_method_19_code 29 = .ok (.if_icmp .ge 104, 3) := by decide +kernel
theorem d_T_joinRow_133 : decode prog_11_method_19_code 133 = .ok (.aload_n 0, 1) := by decide +kernel
theorem d_T_joinRow_134 : decode prog_11_method_19_code 134 = .ok (.getfield 23, 3) := by decide +kernel
theorem d_T_joinRow_137 : decode prog_11_method_19_code 137 = .ok (.iload 6, 2) := by decide +kernel
theorem d_T_joinRow_139 : decode prog_11_method_19_code 139 = .ok (.lload 9, 2) := by decide +kernel
theorem d_T_joinRow_141 : decode prog_11_method_19_code 141 = .ok (.lastore, 1) := by decide +kernel
theorem d_T_joinRow_142 : decode prog_11_method_19_code 142 = .ok (.return_, 1) := by decide +kernel
theorem d_T_joinRow_32 : decode prog_11_method_19_code 32 = .ok (.aload_n 2, 1) := by decide +kernel
theorem d_T_joinRow_33 : decode prog_11_method_19_code 33 = .ok (.iload_n 3, 1) := by decide +kernel
theorem d_T_joinRow_34 : decode prog_11_method_19_code 34 = .ok (.iload 11, 2) := by decide +kernel
theorem d_T_joinRow_36 : decode prog_11_method_19_code 36 = .ok (.invokevirtual 100, 3) := by decide +kernel
theorem d_T_joinRow_39 : decode prog_11_method_19_code 39 = .ok (.lstore 12, 2) := by decide +kernel
theorem d_T_joinRow_41 : decode prog_11_method_19_code 41 = .ok (.aload 4, 2) := by decide +kernel
theorem d_T_joinRow_43 : decode prog_11_method_19_code 43 = .ok (.iload 5, 2) := by decide +kernel
theorem d_T_joinRow_45 : decode prog_11_method_19_code 45 = .ok (.iload 11, 2) := by decide +kernel
theorem d_T_joinRow_47 : decode prog_11_method_19_code 47 = .ok (.invokevirtual 100, 3) := by decide +kernel
theorem d_T_joinRow_50 : decode prog_11_method_19_code 50 = .ok (.lstore 14, 2) := by decide +kernel
theorem d_T_joinRow_71 : decode prog_11_method_19_code 71 = .ok (.lload 7, 2) := by decide +kernel
theorem d_T_joinRow_73 : decode prog_11_method_19_code 73 = .ok (.iload 11, 2) := by decide +kernel
theorem d_T_joinRow_75 : decode prog_11_method_19_code 75 = .ok (.lushr, 1) := by decide +kernel
theorem d_T_joinRow_76 : decode prog_11_method_19_code 76 = .ok (.lconst 1, 1) := by decide +kernel
theorem d_T_joinRow_77 : decode prog_11_method_19_code 77 = .ok (.land, 1) := by decide +kernel
theorem d_T_joinRow_78 : decode prog_11_method_19_code 78 = .ok (.lconst 1, 1) := by decide +kernel
theorem d_T_joinRow_79 : decode prog_11_method_19_code 79 = .ok (.lcmp, 1) := by decide +kernel
theorem d_T_joinRow_80 : decode prog_11_method_19_code 80 = .ok (.ifCond .ne 47, 3) := by decide +kernel
theorem d_T_joinRow_127 : decode prog_11_method_19_code 127 = .ok (.iinc 11 1, 3) := by decide +kernel
theorem d_T_joinRow_130 : decode prog_11_method_19_code 130 = .ok (.goto (-107), 3) := by decide +kernel
theorem d_T_joinRow_83 : decode prog_11_method_19_code 83 = .ok (.iload 16, 2) := by decide +kernel
theorem d_T_joinRow_85 : decode prog_11_method_19_code 85 = .ok (.ifCond .eq 10, 3) := by decide +kernel
theorem d_T_joinRow_95 : decode prog_11_method_19_code 95 = .ok (.lload 9, 2) := by decide +kernel
theorem d_T_joinRow_97 : decode prog_11_method_19_code 97 = .ok (.lconst 1, 1) := by decide +kernel
theorem d_T_joinRow_98 : decode prog_11_method_19_code 98 = .ok (.iload 11, 2) := by decide +kernel
theorem d_T_joinRow_100 : decode prog_11_method_19_code 100 = .ok (.lshl, 1) := by decide +kernel
theorem d_T_joinRow_101 : decode prog_11_method_19_code 101 = .ok (.lor, 1) := by decide +kernel
theorem d_T_joinRow_102 : decode prog_11_method_19_code 102 = .ok (.lstore 9, 2) := by decide +kernel
theorem d_T_joinRow_104 : decode prog_11_method_19_code 104 = .ok (.aload_n 0, 1) := by decide +kernel
theorem d_T_joinRow_105 : decode prog_11_method_19_code 105 = .ok (.getfield 27, 3) := by decide +kernel
theorem d_T_joinRow_108 : decode prog_11_method_19_code 108 = .ok (.iload 6, 2) := by decide +kernel
theorem d_T_joinRow_110 : decode prog_11_method_19_code 110 = .ok (.aload_n 0, 1) := by decide +kernel
theorem d_T_joinRow_111 : decode prog_11_method_19_code 111 = .ok (.getfield 30, 3) := by decide +kernel
theorem d_T_joinRow_114 : decode prog_11_method_19_code 114 = .ok (.imul, 1) := by decide +kernel
theorem d_T_joinRow_115 : decode prog_11_method_19_code 115 = .ok (.iload 11, 2) := by decide +kernel
theorem d_T_joinRow_117 : decode prog_11_method_19_code 117 = .ok (.iadd, 1) := by decide +kernel
theorem d_T_joinRow_118 : decode prog_11_method_19_code 118 = .ok (.iload_n 1, 1) := by decide +kernel
theorem d_T_joinRow_119 : decode prog_11_method_19_code 119 = .ok (.lload 12, 2) := by decide +kernel
theorem d_T_joinRow_121 : decode prog_11_method_19_code 121 = .ok (.lload 14, 2) := by decide +kernel
theorem d_T_joinRow_123 : decode prog_11_method_19_code 123 = .ok (.invokestatic 104, 3) := by decide +kernel
theorem d_T_joinRow_126 : decode prog_11_method_19_code 126 = .ok (.lastore, 1) := by decide +kernel
theorem d_T_joinRow_88 : decode prog_11_method_19_code 88 = .ok (.lload 14, 2) := by decide +kernel
theorem d_T_joinRow_90 : decode prog_11_method_19_code 90 = .ok (.lconst 0, 1) := by decide +kernel
theorem d_T_joinRow_91 : decode prog_11_method_19_code 91 = .ok (.lcmp, 1) := by decide +kernel
theorem d_T_joinRow_92 : decode prog_11_method_19_code 92 = .ok (.ifCond .eq 35, 3) := by decide +kernel
theorem d_T_joinRow_52 : decode prog_11_method_19_code 52 = .ok (.iload_n 1, 1) := by decide +kernel
theorem d_T_joinRow_53 : decode prog_11_method_19_code 53 = .ok (.bipush 47, 2) := by decide +kernel
theorem d_T_joinRow_55 : decode prog_11_method_19_code 55 = .ok (.if_icmp .eq 9, 3) := by decide +kernel
theorem d_T_joinRow_64 : decode prog_11_method_19_code 64 = .ok (.iconst 1, 1) := by decide +kernel
theorem d_T_joinRow_65 : decode prog_11_method_19_code 65 = .ok (.goto 4, 3) := by decide +kernel
theorem d_T_joinRow_69 : decode prog_11_method_19_code 69 = .ok (.istore 16, 2) := by decide +kernel
theorem d_T_joinRow_58 : decode prog_11_method_19_code 58 = .ok (.iload_n 1, 1) := by decide +kernel
theorem d_T_joinRow_59 : decode prog_11_method_19_code 59 = .ok (.bipush 37, 2) := by decide +kernel
theorem d_T_joinRow_61 : decode prog_11_method_19_code 61 = .ok (.if_icmp .ne 7, 3) := by decide +kernel
theorem d_T_joinRow_68 : decode prog_11_method_19_code 68 = .ok (.iconst 0, 1) := by decide +kernel
theorem w1413 : Cond.methodLink "SeriesVault$Table" 100 ⟨"SeriesVault$Table", "numberAt", "(II)J"⟩ ∈ aW := aw_of (tb_8 (List.mem_of_getElem? (i := 58) rfl)) rfl
theorem w1414 : Cond.code ⟨"SeriesVault$Table", "numberAt", "(II)J"⟩ prog_11_method_10_code 3 (some FieldType.long) ∈ aW := aw_of (tb_8 (List.mem_of_getElem? (i := 13) rfl)) rfl
theorem w1415 : Cond.instanceMethod ⟨"SeriesVault$Table", "numberAt", "(II)J"⟩ ∈ aW := aw_of (tb_8 (List.mem_of_getElem? (i := 11) rfl)) rfl
theorem w1416 : Cond.selects "SeriesVault$Table" ⟨"SeriesVault$Table", "numberAt", "(II)J"⟩ ⟨"SeriesVault$Table", "numberAt", "(II)J"⟩ ∈ aW := aw_of (tb_8 (List.mem_of_getElem? (i := 12) rfl)) rfl
theorem w1417 : Cond.methodLink "SeriesVault$Table" 104 ⟨"SeriesVault$Table", "joined", "(IJJ)J"⟩ ∈ aW := aw_of (tb_8 (List.mem_of_getElem? (i := 59) rfl)) rfl
theorem w1418 : Cond.code ⟨"SeriesVault$Table", "joined", "(IJJ)J"⟩ prog_11_method_20_code 5 (some FieldType.long) ∈ aW := aw_of (tb_8 (List.mem_of_getElem? (i := 61) rfl)) rfl
theorem w1419 : Cond.static ⟨"SeriesVault$Table", "joined", "(IJJ)J"⟩ ∈ aW := aw_of (tb_8 (List.mem_of_getElem? (i := 60) rfl)) rfl
set_option maxHeartbeats 4000000 in
set_option maxRecDepth 100000 in
theorem v_TjoinRow_l (l : Launch) (D : va_G) (dA : Nat → ClassId) (sz : Nat) (ws : va_W) (ta : Nat → Nat) (t : TB) (tb : Nat → Nat) (u : TB) (sg : Int32) (a : Nat) (b : Nat) (g : Nat) (hop : isOp sg) (hcN : t.cN ≤ 65536) (hcM : u.cN ≤ 65536) (hl1 : a < 256) (hr1 : b < 256) (hg1 : g < 256) (hg2 : g * t.wi + t.wi ≤ t.cN) (hl2 : a * t.wi + t.wi ≤ t.cN) (hr2 : b * u.wi + t.wi ≤ u.cN) (hga : g ≤ a) : Met l ⟨"SeriesVault$Table", "joinRow", "(ILSeriesVault$Table;ILSeriesVault$Table;II)V"⟩ [Cond.code ⟨"SeriesVault$Table", "joinRow", "(ILSeriesVault$Table;ILSeriesVault$Table;II)V"⟩ prog_11_method_19_code 17 none] { frames := 2, cells := 0, slots := 0, locals := 24 } (pC D dA [.ref (ta 0), .int sg, .ref (ta 0), .int (nI a), .ref (tb 0), .int (nI b), .int (nI g)] (TbW dA ta t ++ (TbW dA tb u ++ (ws))) sz) (va_Qv (fun (u9 : Unit) => True) (fun (u9 : Unit) t9 => bW D (va_A (TbW dA ta t ++ (TbW dA tb u ++ (ws))) sz) (TbW dA ta (TB.s_ce (TB.s_th t (va_up t.th g (jrW sg ((t.th a) &&& (u.th b)) (fun w => t.ce (a * t.wi + w)) (fun w => u.ce (b * u.wi + w)) t.ce (g * t.wi) t.wi).1)) ((jrW sg ((t.th a) &&& (u.th b)) (fun w => t.ce (a * t.wi + w)) (fun w => u.ce (b * u.wi + w)) t.ce (g * t.wi) t.wi).2)) ++ (TbW dA tb u ++ (ws))) t9) (va_A (TbW dA ta t ++ (TbW dA tb u ++ (ws))) sz)) 0 0 (va_A (TbW dA ta t ++ (TbW dA tb u ++ (ws))) sz) := by
  refine mkC (y := ⟨"SeriesVault$Table", "joinRow", "(ILSeriesVault$Table;ILSeriesVault$Table;II)V"⟩) (cc := prog_11_method_19_code) (maxL := 17) (av := [.ref (ta 0), .int sg, .ref (ta 0), .int (nI a), .ref (tb 0), .int (nI b), .int (nI g)]) (ws := TbW dA ta t ++ (TbW dA tb u ++ (ws))) (sz := sz) (Qc := fun A => va_Qv (fun (u9 : Unit) => True) (fun (u9 : Unit) t9 => bW D A (TbW dA ta (TB.s_ce (TB.s_th t (va_up t.th g (jrW sg ((t.th a) &&& (u.th b)) (fun w => t.ce (a * t.wi + w)) (fun w => u.ce (b * u.wi + w)) t.ce (g * t.wi) t.wi).1)) ((jrW sg ((t.th a) &&& (u.th b)) (fun w => t.ce (a * t.wi + w)) (fun w => u.ce (b * u.wi + w)) t.ce (g * t.wi) t.wi).2)) ++ (TbW dA tb u ++ (ws))) t9) A) (by decide) (Nat.le_of_ble_eq_true rfl) ?_
  intro A p e s m below meth c ls hsz hB
  obtain ⟨hx, hb, hr, hml, hown, hin, hlk, hE, hK, hP, hD, hS, hA, hN, hl⟩ := hB
  have hown : s.vm.findClass "SeriesVault$Table" = some m.cls := hown
  have hl : lv_has ls 17 [(0, .ref (ta 0)), (1, .int sg), (2, .ref (ta 0)), (3, .int (nI a)), (4, .ref (tb 0)), (5, .int (nI b)), (6, .int (nI g))] := hl
  obtain ⟨H, hH⟩ : ∃ z, z = s.heap := ⟨_, rfl⟩
  have hP : va_P D vwCl (TbW dA ta t ++ (TbW dA tb u ++ (ws))) H := by rw [hH]; exact hP
  have hS : va_S A s.heap H [] := by rw [hH]; exact hS
  rw [← hH]
  refine lv_aload_n hx hb d_T_joinRow_0 rfl (lv_at hl 2 rfl) ?_
  refine gF (v := .ref (ta 3)) hx hb hown hE hK hP 0 rfl rfl layT 5 (by decide) w788 rfl d_T_joinRow_1 ?_
  refine lv_iload_n hx hb d_T_joinRow_4 rfl (lv_at hl 3 rfl) ?_
  refine nlld (f := t.th) (n := 256) hx hb hK hP (3) 2 rfl rfl (a) (by omega) (by decide) d_T_joinRow_5 ?_
  refine lv_aload hx hb d_T_joinRow_6 (lv_at hl 4 rfl) ?_
  refine gF (v := .ref (tb 3)) hx hb hown hE hK hP 5 rfl rfl layT 5 (by decide) w788 rfl d_T_joinRow_8 ?_
  refine lv_iload hx hb d_T_joinRow_11 (lv_at hl 5 rfl) ?_
  refine nlld (f := u.th) (n := 256) hx hb hK hP (8) 2 rfl rfl (b) (by omega) (by decide) d_T_joinRow_13 ?_
  refine lv_land hx hb d_T_joinRow_14 ?_
  refine lv_lstore hx hb d_T_joinRow_15 hl (by decide) rfl (fun ls hl => ?_)
  have hl : lv_has ls 17 [(7, .long ((t.th a) &&& (u.th b))), (0, .ref (ta 0)), (1, .int sg), (2, .ref (ta 0)), (3, .int (nI a)), (4, .ref (tb 0)), (5, .int (nI b)), (6, .int (nI g))] := hl
  refine lv_lconst (v := 0) hx hb d_T_joinRow_17 (by decide) ?_
  refine lv_lstore hx hb d_T_joinRow_18 hl (by decide) rfl (fun ls hl => ?_)
  have hl : lv_has ls 17 [(9, .long 0), (7, .long ((t.th a) &&& (u.th b))), (0, .ref (ta 0)), (1, .int sg), (2, .ref (ta 0)), (3, .int (nI a)), (4, .ref (tb 0)), (5, .int (nI b)), (6, .int (nI g))] := hl
  refine lv_iconst (v := 0) hx hb d_T_joinRow_20 (by decide) ?_
  refine lv_istore hx hb d_T_joinRow_21 hl (by decide) rfl (fun ls hl => ?_)
  have hl : lv_has ls 17 [(11, .int 0), (9, .long 0), (7, .long ((t.th a) &&& (u.th b))), (0, .ref (ta 0)), (1, .int sg), (2, .ref (ta 0)), (3, .int (nI a)), (4, .ref (tb 0)), (5, .int (nI b)), (6, .int (nI g))] := hl
  have L23 : ∀ (k9 : Nat) (w : Nat) (st : Int64) (z : Nat → Int64) (i1 : w ≤ t.wi) (ez : jrW sg ((t.th a) &&& (u.th b)) (fun w => t.ce (a * t.wi + w)) (fun w => u.ce (b * u.wi + w)) t.ce (g * t.wi) w = (st, z)) (hk9 : t.wi - w = k9), ∀ (H : Heap) (locs : List Loc) (ls : Array Slot) (hP : va_P D vwCl (TbW dA ta (TB.s_ce t z) ++ (TbW dA tb u ++ (ws))) H) (hD : va_D A (TbW dA ta (TB.s_ce t z) ++ (TbW dA tb u ++ (ws)))) (hS : va_S A s.heap H locs) (hl : lv_has ls 17 [(11, .int (nI w)), (9, .long st), (7, .long ((t.th a) &&& (u.th b))), (0, .ref (ta 0)), (1, .int sg), (2, .ref (ta 0)), (3, .int (nI a)), (4, .ref (tb 0)), (5, .int (nI b)), (6, .int (nI g))]), W p l e ({ frames := 2, cells := 0, slots := 0, locals := 24 } : Room) s m ([.ref (ta 0), .int sg, .ref (ta 0), .int (nI a), .ref (tb 0), .int (nI b), .int (nI g)] : List Value).toArray below meth c H locs 0 0 (MQ below (va_Qv (fun (u9 : Unit) => True) (fun (u9 : Unit) t9 => bW D A (TbW dA ta (TB.s_ce (TB.s_th t (va_up t.th g (jrW sg ((t.th a) &&& (u.th b)) (fun w => t.ce (a * t.wi + w)) (fun w => u.ce (b * u.wi + w)) t.ce (g * t.wi) t.wi).1)) ((jrW sg ((t.th a) &&& (u.th b)) (fun w => t.ce (a * t.wi + w)) (fun w => u.ce (b * u.wi + w)) t.ce (g * t.wi) t.wi).2)) ++ (TbW dA tb u ++ (ws))) t9) A) ([.ref (ta 0), .int sg, .ref (ta 0), .int (nI a), .ref (tb 0), .int (nI b), .int (nI g)] : List Value).toArray s 0 0 A) (F0 m 23 ls []) := by
    intro k9
    induction k9 using Nat.strongRecOn with
    | ind k9 ih23 =>
      intro w st z i1 ez hk9 H locs ls hP hD hS hl
      have hz : z = (jrW sg ((t.th a) &&& (u.th b)) (fun w => t.ce (a * t.wi + w)) (fun w => u.ce (b * u.wi + w)) t.ce (g * t.wi) w).2 := by rw [ez]
      refine lv_iload hx hb d_T_joinRow_23 (lv_at hl 0 rfl) ?_
      refine lv_aload_n hx hb d_T_joinRow_25 rfl (lv_at hl 3 rfl) ?_
      refine gF (v := .int (nI t.wi)) hx hb hown hE hK hP 0 rfl rfl layT 2 (by decide) w1367 rfl d_T_joinRow_26 ?_
      refine lv_icmp_ge hx hb d_T_joinRow_29 (tgt := 133) rfl (fun g1 => ?_) (fun g1 => ?_)
      · have g1 := (nI_leI (a := t.wi) (b := w) (by omega) (by omega)).mp g1
        refine lv_aload_n hx hb d_T_joinRow_133 rfl (lv_at hl 3 rfl) ?_
        refine gF (v := .ref (ta 3)) hx hb hown hE hK hP 0 rfl rfl layT 5 (by decide) w788 rfl d_T_joinRow_134 ?_
        refine lv_iload hx hb d_T_joinRow_137 (lv_at hl 9 rfl) ?_
        refine lv_lload hx hb d_T_joinRow_139 (lv_at hl 1 rfl) ?_
        refine nlst (n := 256) hx hb hK hP hD hS (3) 2 rfl rfl (g) (by omega) (by decide) d_T_joinRow_141 (fun H locs hP hD hS => ?_)
        have hP : va_P D vwCl (TbW dA ta (TB.s_ce (TB.s_th t (va_up t.th g st)) z) ++ (TbW dA tb u ++ (ws))) H := hP
        have hD : va_D A (TbW dA ta (TB.s_ce (TB.s_th t (va_up t.th g st)) z) ++ (TbW dA tb u ++ (ws))) := hD
        have e9 : (TB.s_ce (TB.s_th t (va_up t.th g st)) z : TB) = TB.s_ce (TB.s_th t (va_up t.th g (jrW sg ((t.th a) &&& (u.th b)) (fun w => t.ce (a * t.wi + w)) (fun w => u.ce (b * u.wi + w)) t.ce (g * t.wi) t.wi).1)) ((jrW sg ((t.th a) &&& (u.th b)) (fun w => t.ce (a * t.wi + w)) (fun w => u.ce (b * u.wi + w)) t.ce (g * t.wi) t.wi).2) := by rw [show (va_up t.th g (jrW sg ((t.th a) &&& (u.th b)) (fun w => t.ce (a * t.wi + w)) (fun w => u.ce (b * u.wi + w)) t.ce (g * t.wi) t.wi).1) = (va_up t.th g st) from by (have e8 := ez; rw [show w = t.wi by omega] at e8; rw [e8]), show ((jrW sg ((t.th a) &&& (u.th b)) (fun w => t.ce (a * t.wi + w)) (fun w => u.ce (b * u.wi + w)) t.ce (g * t.wi) t.wi).2) = z from by (have e8 := ez; rw [show w = t.wi by omega] at e8; rw [e8])] <;> rfl
        rw [e9] at hP hD
        exact rfV hx hb hr hlk hS () trivial hP hD (Nat.le_of_ble_eq_true rfl) (Nat.le_of_ble_eq_true rfl) d_T_joinRow_142
      · have g1 := mt (nI_leI (a := t.wi) (b := w) (by omega) (by omega)).mpr g1
        refine lv_aload_n hx hb d_T_joinRow_32 rfl (lv_at hl 5 rfl) ?_
        refine lv_iload_n hx hb d_T_joinRow_33 rfl (lv_at hl 6 rfl) ?_
        refine lv_iload hx hb d_T_joinRow_34 (lv_at hl 0 rfl) ?_
        refine jkL (wr := []) (rnV (As := [.int (nI a), .int (nI w)]) (rest := []) hx hb hml hown hE hK (hN _ _ hS) hP hD (v_TnumberAt l D dA H.size (TbW dA tb u ++ (ws)) ta (TB.s_ce t z) a w hcN (show a * t.wi + w < t.cN by omega)) (q0 := 0) rfl rfl w1414 w1413 w1415 w1416 w807 rfl rfl ⟨⟨by decide, by decide⟩, rfl⟩ ⟨(Nat.le_of_ble_eq_true rfl), (Nat.le_of_ble_eq_true rfl)⟩ rfl hl.1 rfl (Nat.le_of_ble_eq_true rfl) d_T_joinRow_36 ⟨(Nat.le_of_ble_eq_true rfl), (Nat.le_of_ble_eq_true rfl)⟩) hP hD hS hA (fun r2 u3 H locs hp9 hP hD hS => ?_)
        have hP : va_P D vwCl (TbW dA ta (TB.s_ce t z) ++ (TbW dA tb u ++ (ws))) H := hP
        have hD : va_D A (TbW dA ta (TB.s_ce t z) ++ (TbW dA tb u ++ (ws))) := hD
        replace hp9 : z (a * t.wi + w) = r2 := Eq.symm hp9
        subst hp9
        refine tpl (y := (fun w => t.ce (a * t.wi + w)) w) (by rw [hz]; exact jrW_at (jl_in hga (by omega))) ?_
        refine lv_lstore hx hb d_T_joinRow_39 hl (by decide) rfl (fun ls hl => ?_)
        have hl : lv_has ls 17 [(12, .long ((fun w => t.ce (a * t.wi + w)) w)), (11, .int (nI w)), (9, .long st), (7, .long ((t.th a) &&& (u.th b))), (0, .ref (ta 0)), (1, .int sg), (2, .ref (ta 0)), (3, .int (nI a)), (4, .ref (tb 0)), (5, .int (nI b)), (6, .int (nI g))] := hl
        refine lv_aload hx hb d_T_joinRow_41 (lv_at hl 8 rfl) ?_
        refine lv_iload hx hb d_T_joinRow_43 (lv_at hl 9 rfl) ?_
        refine lv_iload hx hb d_T_joinRow_45 (lv_at hl 1 rfl) ?_
        have hP := pmP (show List.Perm (α := Nat × va_E) (TbW dA ta (TB.s_ce t z) ++ (TbW dA tb u ++ (ws))) (TbW dA tb u ++ (TbW dA ta (TB.s_ce t z) ++ (ws))) from List.perm_append_comm_assoc (TbW dA ta (TB.s_ce t z)) (TbW dA tb u) (ws)) hP
        have hD := pmD (show List.Perm (α := Nat × va_E) (TbW dA ta (TB.s_ce t z) ++ (TbW dA tb u ++ (ws))) (TbW dA tb u ++ (TbW dA ta (TB.s_ce t z) ++ (ws))) from List.perm_append_comm_assoc (TbW dA ta (TB.s_ce t z)) (TbW dA tb u) (ws)) hD
        refine jkL (wr := []) (rnV (As := [.int (nI b), .int (nI w)]) (rest := []) hx hb hml hown hE hK (hN _ _ hS) hP hD (v_TnumberAt l D dA H.size (TbW dA ta (TB.s_ce t z) ++ (ws)) tb u b w hcM (show b * u.wi + w < u.cN by omega)) (q0 := 0) rfl rfl w1414 w1413 w1415 w1416 w807 rfl rfl ⟨⟨by decide, by decide⟩, rfl⟩ ⟨(Nat.le_of_ble_eq_true rfl), (Nat.le_of_ble_eq_true rfl)⟩ rfl hl.1 rfl (Nat.le_of_ble_eq_true rfl) d_T_joinRow_47 ⟨(Nat.le_of_ble_eq_true rfl), (Nat.le_of_ble_eq_true rfl)⟩) hP hD hS hA (fun r4 u5 H locs hp9 hP hD hS => ?_)
        have hP : va_P D vwCl (TbW dA tb u ++ (TbW dA ta (TB.s_ce t z) ++ (ws))) H := hP
        have hD : va_D A (TbW dA tb u ++ (TbW dA ta (TB.s_ce t z) ++ (ws))) := hD
        replace hp9 : u.ce (b * u.wi + w) = r4 := Eq.symm hp9
        subst hp9
        refine tpl (y := (fun w => u.ce (b * u.wi + w)) w) rfl ?_
        have hP := pmP (show List.Perm (α := Nat × va_E) (TbW dA tb u ++ (TbW dA ta (TB.s_ce t z) ++ (ws))) (TbW dA ta (TB.s_ce t z) ++ (TbW dA tb u ++ (ws))) from List.perm_append_comm_assoc (TbW dA tb u) (TbW dA ta (TB.s_ce t z)) (ws)) hP
        have hD := pmD (show List.Perm (α := Nat × va_E) (TbW dA tb u ++ (TbW dA ta (TB.s_ce t z) ++ (ws))) (TbW dA ta (TB.s_ce t z) ++ (TbW dA tb u ++ (ws))) from List.perm_append_comm_assoc (TbW dA tb u) (TbW dA ta (TB.s_ce t z)) (ws)) hD
        refine lv_lstore hx hb d_T_joinRow_50 hl (by decide) rfl (fun ls hl => ?_)
        have hl : lv_has ls 17 [(14, .long ((fun w => u.ce (b * u.wi + w)) w)), (12, .long ((fun w => t.ce (a * t.wi + w)) w)), (11, .int (nI w)), (9, .long st), (7, .long ((t.th a) &&& (u.th b))), (0, .ref (ta 0)), (1, .int sg), (2, .ref (ta 0)), (3, .int (nI a)), (4, .ref (tb 0)), (5, .int (nI b)), (6, .int (nI g))] := hl
        have J71 : ∀ (dv : Bool) (edv : (decide (sg = 47) || decide (sg = 37)) = dv), ∀ (H : Heap) (locs : List Loc) (ls : Array Slot) (hP : va_P D vwCl (TbW dA ta (TB.s_ce t z) ++ (TbW dA tb u ++ (ws))) H) (hD : va_D A (TbW dA ta (TB.s_ce t z) ++ (TbW dA tb u ++ (ws)))) (hS : va_S A s.heap H locs) (hl : lv_has ls 17 [(11, .int (nI w)), (9, .long st), (7, .long ((t.th a) &&& (u.th b))), (0, .ref (ta 0)), (1, .int sg), (2, .ref (ta 0)), (3, .int (nI a)), (4, .ref (tb 0)), (5, .int (nI b)), (6, .int (nI g)), (16, .int (bI dv)), (12, .long ((fun w => t.ce (a * t.wi + w)) w)), (14, .long ((fun w => u.ce (b * u.wi + w)) w))]), W p l e ({ frames := 2, cells := 0, slots := 0, locals := 24 } : Room) s m ([.ref (ta 0), .int sg, .ref (ta 0), .int (nI a), .ref (tb 0), .int (nI b), .int (nI g)] : List Value).toArray below meth c H locs 0 0 (MQ below (va_Qv (fun (u9 : Unit) => True) (fun (u9 : Unit) t9 => bW D A (TbW dA ta (TB.s_ce (TB.s_th t (va_up t.th g (jrW sg ((t.th a) &&& (u.th b)) (fun w => t.ce (a * t.wi + w)) (fun w => u.ce (b * u.wi + w)) t.ce (g * t.wi) t.wi).1)) ((jrW sg ((t.th a) &&& (u.th b)) (fun w => t.ce (a * t.wi + w)) (fun w => u.ce (b * u.wi + w)) t.ce (g * t.wi) t.wi).2)) ++ (TbW dA tb u ++ (ws))) t9) A) ([.ref (ta 0), .int sg, .ref (ta 0), .int (nI a), .ref (tb 0), .int (nI b), .int (nI g)] : List Value).toArray s 0 0 A) (F0 m 71 ls []) := by
          intro dv edv H locs ls hP hD hS hl
          refine lv_lload hx hb d_T_joinRow_71 (lv_at hl 2 rfl) ?_
          refine lv_iload hx hb d_T_joinRow_73 (lv_at hl 0 rfl) ?_
          refine lv_lushr (v := ushL ((t.th a) &&& (u.th b)) (nI w)) hx hb d_T_joinRow_75 rfl ?_
          refine lv_lconst (v := 1) hx hb d_T_joinRow_76 (by decide) ?_
          refine lv_land hx hb d_T_joinRow_77 ?_
          refine lv_lconst (v := 1) hx hb d_T_joinRow_78 (by decide) ?_
          refine W.lcmp hx hb d_T_joinRow_79 ?_
          refine lv_if_ne hx hb d_T_joinRow_80 (tgt := 127) rfl (fun g6 => ?_) (fun g6 => ?_)
          · have g6 := mt (lg_cmp_eq _ _).mpr g6
            refine lv_iinc (k := 0) (v := nI (w + 1)) hx hb d_T_joinRow_127 hl rfl (iincN (w) 1 1 (by decide)) (by decide) rfl (fun ls hl => ?_)
            have hl : lv_has ls 17 [(11, .int (nI (w + 1))), (9, .long st), (7, .long ((t.th a) &&& (u.th b))), (0, .ref (ta 0)), (1, .int sg), (2, .ref (ta 0)), (3, .int (nI a)), (4, .ref (tb 0)), (5, .int (nI b)), (6, .int (nI g)), (16, .int (bI dv)), (12, .long ((fun w => t.ce (a * t.wi + w)) w)), (14, .long ((fun w => u.ce (b * u.wi + w)) w))] := hl
            refine lv_goto hx hb d_T_joinRow_130 (tgt := 23) rfl ?_
            exact ih23 _ (by omega) (w + 1) st z (by omega) (jrW_f (R := fun w => u.ce (b * u.wi + w)) (by unfold jnS; rw [decide_eq_false g6]; rfl) ez) rfl H _ ls hP hD hS (lv_sub hl [0, 1, 2, 3, 4, 5, 6, 7, 8, 9] rfl)
          · have g6 := (lg_cmp_eq _ _).mp g6
            refine lv_iload hx hb d_T_joinRow_83 (lv_at hl 10 rfl) ?_
            refine lv_if_eq hx hb d_T_joinRow_85 (tgt := 95) rfl (fun g7 => ?_) (fun g7 => ?_)
            · have g7 := bI_0 g7
              refine lv_lload hx hb d_T_joinRow_95 (lv_at hl 1 rfl) ?_
              refine lv_lconst (v := 1) hx hb d_T_joinRow_97 (by decide) ?_
              refine lv_iload hx hb d_T_joinRow_98 (lv_at hl 0 rfl) ?_
              refine lv_lshl hx hb d_T_joinRow_100 rfl ?_
              refine lv_lor hx hb d_T_joinRow_101 ?_
              refine lv_lstore hx hb d_T_joinRow_102 hl (by decide) rfl (fun ls hl => ?_)
              have hl : lv_has ls 17 [(9, .long (st ||| (1 <<< ((nI w).toInt64 &&& 63)))), (11, .int (nI w)), (7, .long ((t.th a) &&& (u.th b))), (0, .ref (ta 0)), (1, .int sg), (2, .ref (ta 0)), (3, .int (nI a)), (4, .ref (tb 0)), (5, .int (nI b)), (6, .int (nI g)), (16, .int (bI dv)), (12, .long ((fun w => t.ce (a * t.wi + w)) w)), (14, .long ((fun w => u.ce (b * u.wi + w)) w))] := hl
              refine lv_aload_n hx hb d_T_joinRow_104 rfl (lv_at hl 3 rfl) ?_
              refine gF (v := .ref t.cA) hx hb hown hE hK hP 0 rfl rfl layT 6 (by decide) w789 rfl d_T_joinRow_105 ?_
              refine lv_iload hx hb d_T_joinRow_108 (lv_at hl 9 rfl) ?_
              refine lv_aload_n hx hb d_T_joinRow_110 rfl (lv_at hl 3 rfl) ?_
              refine gF (v := .int (nI t.wi)) hx hb hown hE hK hP 0 rfl rfl layT 2 (by decide) w1367 rfl d_T_joinRow_111 ?_
              refine lv_imul hx hb d_T_joinRow_114 (tpi (y := nI (g * t.wi)) (pk_mul (g) (t.wi)) ?_)
              refine lv_iload hx hb d_T_joinRow_115 (lv_at hl 1 rfl) ?_
              refine lv_iadd hx hb d_T_joinRow_117 (tpi (y := nI ((g * t.wi) + w)) (nI_add (g * t.wi) (w)) ?_)
              refine lv_iload_n hx hb d_T_joinRow_118 rfl (lv_at hl 4 rfl) ?_
              refine lv_lload hx hb d_T_joinRow_119 (lv_at hl 11 rfl) ?_
              refine lv_lload hx hb d_T_joinRow_121 (lv_at hl 12 rfl) ?_
              have hPc := hP.sub (ws' := []) [] rfl
              have hDc := hD.sub (ws' := []) [] (by decide) rfl
              refine jpL (rnS (As := [.int sg, .long ((fun w => t.ce (a * t.wi + w)) w), .long ((fun w => u.ce (b * u.wi + w)) w)]) (rest := [.int (nI ((g * t.wi) + w)), .ref t.cA]) hx hb hml hown hE hK (hN _ _ hS) hPc hDc (v_Tjoined l D dA H.size sg ((fun w => t.ce (a * t.wi + w)) w) ((fun w => u.ce (b * u.wi + w)) w) hop) w1418 w1417 w1419 w807 rfl rfl ⟨⟨by decide, by decide⟩, rfl⟩ ⟨(Nat.le_of_ble_eq_true rfl), (Nat.le_of_ble_eq_true rfl)⟩ rfl hl.1 rfl (Nat.le_of_ble_eq_true rfl) d_T_joinRow_123 ⟨(Nat.le_of_ble_eq_true rfl), (Nat.le_of_ble_eq_true rfl)⟩) hP hD hS hA (fun r8 u9 H locs hp9 hP hD hS => ?_)
              have hP : va_P D vwCl (TbW dA ta (TB.s_ce t z) ++ (TbW dA tb u ++ (ws))) H := hP
              have hD : va_D A (TbW dA ta (TB.s_ce t z) ++ (TbW dA tb u ++ (ws))) := hD
              replace hp9 : jnVl sg ((fun w => t.ce (a * t.wi + w)) w) ((fun w => u.ce (b * u.wi + w)) w) = r8 := Eq.symm hp9
              subst hp9
              refine nlst (n := t.cN) hx hb hK hP hD hS (4) 2 rfl rfl ((g * t.wi) + w) (by omega) (by omega) d_T_joinRow_126 (fun H locs hP hD hS => ?_)
              have hP : va_P D vwCl (TbW dA ta (TB.s_ce t (va_up z ((g * t.wi) + w) (jnVl sg ((fun w => t.ce (a * t.wi + w)) w) ((fun w => u.ce (b * u.wi + w)) w)))) ++ (TbW dA tb u ++ (ws))) H := hP
              have hD : va_D A (TbW dA ta (TB.s_ce t (va_up z ((g * t.wi) + w) (jnVl sg ((fun w => t.ce (a * t.wi + w)) w) ((fun w => u.ce (b * u.wi + w)) w)))) ++ (TbW dA tb u ++ (ws))) := hD
              refine lv_iinc (k := 1) (v := nI (w + 1)) hx hb d_T_joinRow_127 hl rfl (iincN (w) 1 1 (by decide)) (by decide) rfl (fun ls hl => ?_)
              have hl : lv_has ls 17 [(11, .int (nI (w + 1))), (9, .long (st ||| (1 <<< ((nI w).toInt64 &&& 63)))), (7, .long ((t.th a) &&& (u.th b))), (0, .ref (ta 0)), (1, .int sg), (2, .ref (ta 0)), (3, .int (nI a)), (4, .ref (tb 0)), (5, .int (nI b)), (6, .int (nI g)), (16, .int (bI dv)), (12, .long ((fun w => t.ce (a * t.wi + w)) w)), (14, .long ((fun w => u.ce (b * u.wi + w)) w))] := hl
              refine lv_goto hx hb d_T_joinRow_130 (tgt := 23) rfl ?_
              exact ih23 _ (by omega) (w + 1) (st ||| (1 <<< ((nI w).toInt64 &&& 63))) (va_up z ((g * t.wi) + w) (jnVl sg ((fun w => t.ce (a * t.wi + w)) w) ((fun w => u.ce (b * u.wi + w)) w))) (by omega) (jrW_t (R := fun w => u.ce (b * u.wi + w)) (by unfold jnS; rw [decide_eq_true g6, show (decide (sg = 47) || decide (sg = 37)) = false from edv.trans g7]; rfl) ez) rfl H _ ls hP hD hS (lv_sub hl [0, 1, 2, 3, 4, 5, 6, 7, 8, 9] rfl)
            · have g7 := bI_n0 g7
              refine lv_lload hx hb d_T_joinRow_88 (lv_at hl 12 rfl) ?_
              refine lv_lconst (v := 0) hx hb d_T_joinRow_90 (by decide) ?_
              refine W.lcmp hx hb d_T_joinRow_91 ?_
              refine lv_if_eq hx hb d_T_joinRow_92 (tgt := 127) rfl (fun g10 => ?_) (fun g10 => ?_)
              · have g10 := (lg_cmp_eq _ _).mp g10
                refine lv_iinc (k := 0) (v := nI (w + 1)) hx hb d_T_joinRow_127 hl rfl (iincN (w) 1 1 (by decide)) (by decide) rfl (fun ls hl => ?_)
                have hl : lv_has ls 17 [(11, .int (nI (w + 1))), (9, .long st), (7, .long ((t.th a) &&& (u.th b))), (0, .ref (ta 0)), (1, .int sg), (2, .ref (ta 0)), (3, .int (nI a)), (4, .ref (tb 0)), (5, .int (nI b)), (6, .int (nI g)), (16, .int (bI dv)), (12, .long ((fun w => t.ce (a * t.wi + w)) w)), (14, .long ((fun w => u.ce (b * u.wi + w)) w))] := hl
                refine lv_goto hx hb d_T_joinRow_130 (tgt := 23) rfl ?_
                exact ih23 _ (by omega) (w + 1) st z (by omega) (jrW_f (R := fun w => u.ce (b * u.wi + w)) (by unfold jnS; rw [decide_eq_true g6, show (decide (sg = 47) || decide (sg = 37)) = true from edv.trans g7, decide_eq_true g10]; rfl) ez) rfl H _ ls hP hD hS (lv_sub hl [0, 1, 2, 3, 4, 5, 6, 7, 8, 9] rfl)
              · have g10 := mt (lg_cmp_eq _ _).mpr g10
                refine lv_lload hx hb d_T_joinRow_95 (lv_at hl 1 rfl) ?_
                refine lv_lconst (v := 1) hx hb d_T_joinRow_97 (by decide) ?_
                refine lv_iload hx hb d_T_joinRow_98 (lv_at hl 0 rfl) ?_
                refine lv_lshl hx hb d_T_joinRow_100 rfl ?_
                refine lv_lor hx hb d_T_joinRow_101 ?_
                refine lv_lstore hx hb d_T_joinRow_102 hl (by decide) rfl (fun ls hl => ?_)
                have hl : lv_has ls 17 [(9, .long (st ||| (1 <<< ((nI w).toInt64 &&& 63)))), (11, .int (nI w)), (7, .long ((t.th a) &&& (u.th b))), (0, .ref (ta 0)), (1, .int sg), (2, .ref (ta 0)), (3, .int (nI a)), (4, .ref (tb 0)), (5, .int (nI b)), (6, .int (nI g)), (16, .int (bI dv)), (12, .long ((fun w => t.ce (a * t.wi + w)) w)), (14, .long ((fun w => u.ce (b * u.wi + w)) w))] := hl
                refine lv_aload_n hx hb d_T_joinRow_104 rfl (lv_at hl 3 rfl) ?_
                refine gF (v := .ref t.cA) hx hb hown hE hK hP 0 rfl rfl layT 6 (by decide) w789 rfl d_T_joinRow_105 ?_
                refine lv_iload hx hb d_T_joinRow_108 (lv_at hl 9 rfl) ?_
                refine lv_aload_n hx hb d_T_joinRow_110 rfl (lv_at hl 3 rfl) ?_
                refine gF (v := .int (nI t.wi)) hx hb hown hE hK hP 0 rfl rfl layT 2 (by decide) w1367 rfl d_T_joinRow_111 ?_
                refine lv_imul hx hb d_T_joinRow_114 (tpi (y := nI (g * t.wi)) (pk_mul (g) (t.wi)) ?_)
                refine lv_iload hx hb d_T_joinRow_115 (lv_at hl 1 rfl) ?_
                refine lv_iadd hx hb d_T_joinRow_117 (tpi (y := nI ((g * t.wi) + w)) (nI_add (g * t.wi) (w)) ?_)
                refine lv_iload_n hx hb d_T_joinRow_118 rfl (lv_at hl 4 rfl) ?_
                refine lv_lload hx hb d_T_joinRow_119 (lv_at hl 11 rfl) ?_
                refine lv_lload hx hb d_T_joinRow_121 (lv_at hl 12 rfl) ?_
                have hPc := hP.sub (ws' := []) [] rfl
                have hDc := hD.sub (ws' := []) [] (by decide) rfl
                refine jpL (rnS (As := [.int sg, .long ((fun w => t.ce (a * t.wi + w)) w), .long ((fun w => u.ce (b * u.wi + w)) w)]) (rest := [.int (nI ((g * t.wi) + w)), .ref t.cA]) hx hb hml hown hE hK (hN _ _ hS) hPc hDc (v_Tjoined l D dA H.size sg ((fun w => t.ce (a * t.wi + w)) w) ((fun w => u.ce (b * u.wi + w)) w) hop) w1418 w1417 w1419 w807 rfl rfl ⟨⟨by decide, by decide⟩, rfl⟩ ⟨(Nat.le_of_ble_eq_true rfl), (Nat.le_of_ble_eq_true rfl)⟩ rfl hl.1 rfl (Nat.le_of_ble_eq_true rfl) d_T_joinRow_123 ⟨(Nat.le_of_ble_eq_true rfl), (Nat.le_of_ble_eq_true rfl)⟩) hP hD hS hA (fun r11 u9 H locs hp9 hP hD hS => ?_)
                have hP : va_P D vwCl (TbW dA ta (TB.s_ce t z) ++ (TbW dA tb u ++ (ws))) H := hP
                have hD : va_D A (TbW dA ta (TB.s_ce t z) ++ (TbW dA tb u ++ (ws))) := hD
                replace hp9 : jnVl sg ((fun w => t.ce (a * t.wi + w)) w) ((fun w => u.ce (b * u.wi + w)) w) = r11 := Eq.symm hp9
                subst hp9
                refine nlst (n := t.cN) hx hb hK hP hD hS (4) 2 rfl rfl ((g * t.wi) + w) (by omega) (by omega) d_T_joinRow_126 (fun H locs hP hD hS => ?_)
                have hP : va_P D vwCl (TbW dA ta (TB.s_ce t (va_up z ((g * t.wi) + w) (jnVl sg ((fun w => t.ce (a * t.wi + w)) w) ((fun w => u.ce (b * u.wi + w)) w)))) ++ (TbW dA tb u ++ (ws))) H := hP
                have hD : va_D A (TbW dA ta (TB.s_ce t (va_up z ((g * t.wi) + w) (jnVl sg ((fun w => t.ce (a * t.wi + w)) w) ((fun w => u.ce (b * u.wi + w)) w)))) ++ (TbW dA tb u ++ (ws))) := hD
                refine lv_iinc (k := 1) (v := nI (w + 1)) hx hb d_T_joinRow_127 hl rfl (iincN (w) 1 1 (by decide)) (by decide) rfl (fun ls hl => ?_)
                have hl : lv_has ls 17 [(11, .int (nI (w + 1))), (9, .long (st ||| (1 <<< ((nI w).toInt64 &&& 63)))), (7, .long ((t.th a) &&& (u.th b))), (0, .ref (ta 0)), (1, .int sg), (2, .ref (ta 0)), (3, .int (nI a)), (4, .ref (tb 0)), (5, .int (nI b)), (6, .int (nI g)), (16, .int (bI dv)), (12, .long ((fun w => t.ce (a * t.wi + w)) w)), (14, .long ((fun w => u.ce (b * u.wi + w)) w))] := hl
                refine lv_goto hx hb d_T_joinRow_130 (tgt := 23) rfl ?_
                exact ih23 _ (by omega) (w + 1) (st ||| (1 <<< ((nI w).toInt64 &&& 63))) (va_up z ((g * t.wi) + w) (jnVl sg ((fun w => t.ce (a * t.wi + w)) w) ((fun w => u.ce (b * u.wi + w)) w))) (by omega) (jrW_t (R := fun w => u.ce (b * u.wi + w)) (by unfold jnS; rw [decide_eq_true g6, decide_eq_false g10, Bool.and_false]; rfl) ez) rfl H _ ls hP hD hS (lv_sub hl [0, 1, 2, 3, 4, 5, 6, 7, 8, 9] rfl)
        refine lv_iload_n hx hb d_T_joinRow_52 rfl (lv_at hl 6 rfl) ?_
        refine lv_bipush (v := 47) hx hb d_T_joinRow_53 (by decide) ?_
        refine lv_icmp_eq hx hb d_T_joinRow_55 (tgt := 64) rfl (fun g13 => ?_) (fun g13 => ?_)
        · have g13 := g13
          refine lv_iconst (v := 1) hx hb d_T_joinRow_64 (by decide) ?_
          refine lv_goto hx hb d_T_joinRow_65 (tgt := 69) rfl ?_
          refine lv_istore hx hb d_T_joinRow_69 hl (by decide) rfl (fun ls hl => ?_)
          have hl : lv_has ls 17 [(16, .int 1), (14, .long ((fun w => u.ce (b * u.wi + w)) w)), (12, .long ((fun w => t.ce (a * t.wi + w)) w)), (11, .int (nI w)), (9, .long st), (7, .long ((t.th a) &&& (u.th b))), (0, .ref (ta 0)), (1, .int sg), (2, .ref (ta 0)), (3, .int (nI a)), (4, .ref (tb 0)), (5, .int (nI b)), (6, .int (nI g))] := hl
          exact J71 true (by rw [decide_eq_true g13]; rfl) H _ ls hP hD hS (lv_sub hl [3, 4, 5, 6, 7, 8, 9, 10, 11, 12, 0, 2, 1] rfl)
        · have g13 := g13
          refine lv_iload_n hx hb d_T_joinRow_58 rfl (lv_at hl 6 rfl) ?_
          refine lv_bipush (v := 37) hx hb d_T_joinRow_59 (by decide) ?_
          refine lv_icmp_ne hx hb d_T_joinRow_61 (tgt := 68) rfl (fun g14 => ?_) (fun g14 => ?_)
          · have g14 := g14
            refine lv_iconst (v := 0) hx hb d_T_joinRow_68 (by decide) ?_
            refine lv_istore hx hb d_T_joinRow_69 hl (by decide) rfl (fun ls hl => ?_)
            have hl : lv_has ls 17 [(16, .int 0), (14, .long ((fun w => u.ce (b * u.wi + w)) w)), (12, .long ((fun w => t.ce (a * t.wi + w)) w)), (11, .int (nI w)), (9, .long st), (7, .long ((t.th a) &&& (u.th b))), (0, .ref (ta 0)), (1, .int sg), (2, .ref (ta 0)), (3, .int (nI a)), (4, .ref (tb 0)), (5, .int (nI b)), (6, .int (nI g))] := hl
            exact J71 false (by rw [decide_eq_false g13, decide_eq_false g14]; rfl) H _ ls hP hD hS (lv_sub hl [3, 4, 5, 6, 7, 8, 9, 10, 11, 12, 0, 2, 1] rfl)
          · have g14 := g14
            refine lv_iconst (v := 1) hx hb d_T_joinRow_64 (by decide) ?_
            refine lv_goto hx hb d_T_joinRow_65 (tgt := 69) rfl ?_
            refine lv_istore hx hb d_T_joinRow_69 hl (by decide) rfl (fun ls hl => ?_)
            have hl : lv_has ls 17 [(16, .int 1), (14, .long ((fun w => u.ce (b * u.wi + w)) w)), (12, .long ((fun w => t.ce (a * t.wi + w)) w)), (11, .int (nI w)), (9, .long st), (7, .long ((t.th a) &&& (u.th b))), (0, .ref (ta 0)), (1, .int sg), (2, .ref (ta 0)), (3, .int (nI a)), (4, .ref (tb 0)), (5, .int (nI b)), (6, .int (nI g))] := hl
            exact J71 true (by rw [decide_eq_false g13, decide_eq_true g14]; rfl) H _ ls hP hD hS (lv_sub hl [3, 4, 5, 6, 7, 8, 9, 10, 11, 12, 0, 2, 1] rfl)
  exact L23 _ 0 0 t.ce (Nat.zero_le _) rfl rfl H _ ls hP hD hS (lv_sub hl [0, 1, 2, 3, 4, 5, 6, 7, 8, 9] rfl)
set_option maxHeartbeats 4000000 in
set_option maxRecDepth 100000 in
theorem v_TjoinRow_r (l : Launch) (D : va_G) (dA : Nat → ClassId) (sz : Nat) (ws : va_W) (ta : Nat → Nat) (t : TB) (tb : Nat → Nat) (u : TB) (sg : Int32) (a : Nat) (b : Nat) (g : Nat) (hop : isOp sg) (hcN : t.cN ≤ 65536) (hcM : u.cN ≤ 65536) (hl1 : a < 256) (hr1 : b < 256) (hg1 : g < 256) (hg2 : g * t.wi + t.wi ≤ t.cN) (hl2 : a * u.wi + t.wi ≤ u.cN) (hr2 : b * t.wi + t.wi ≤ t.cN) (hgb : g ≤ b) : Met l ⟨"SeriesVault$Table", "joinRow", "(ILSeriesVault$Table;ILSeriesVault$Table;II)V"⟩ [Cond.code ⟨"SeriesVault$Table", "joinRow", "(ILSeriesVault$Table;ILSeriesVault$Table;II)V"⟩ prog_11_method_19_code 17 none] { frames := 2, cells := 0, slots := 0, locals := 24 } (pC D dA [.ref (ta 0), .int sg, .ref (tb 0), .int (nI a), .ref (ta 0), .int (nI b), .int (nI g)] (TbW dA ta t ++ (TbW dA tb u ++ (ws))) sz) (va_Qv (fun (u9 : Unit) => True) (fun (u9 : Unit) t9 => bW D (va_A (TbW dA ta t ++ (TbW dA tb u ++ (ws))) sz) (TbW dA ta (TB.s_ce (TB.s_th t (va_up t.th g (jrW sg ((u.th a) &&& (t.th b)) (fun w => u.ce (a * u.wi + w)) (fun w => t.ce (b * t.wi + w)) t.ce (g * t.wi) t.wi).1)) ((jrW sg ((u.th a) &&& (t.th b)) (fun w => u.ce (a * u.wi + w)) (fun w => t.ce (b * t.wi + w)) t.ce (g * t.wi) t.wi).2)) ++ (TbW dA tb u ++ (ws))) t9) (va_A (TbW dA ta t ++ (TbW dA tb u ++ (ws))) sz)) 0 0 (va_A (TbW dA ta t ++ (TbW dA tb u ++ (ws))) sz) := by
  refine mkC (y := ⟨"SeriesVault$Table", "joinRow", "(ILSeriesVault$Table;ILSeriesVault$Table;II)V"⟩) (cc := prog_11_method_19_code) (maxL := 17) (av := [.ref (ta 0), .int sg, .ref (tb 0), .int (nI a), .ref (ta 0), .int (nI b), .int (nI g)]) (ws := TbW dA ta t ++ (TbW dA tb u ++ (ws))) (sz := sz) (Qc := fun A => va_Qv (fun (u9 : Unit) => True) (fun (u9 : Unit) t9 => bW D A (TbW dA ta (TB.s_ce (TB.s_th t (va_up t.th g (jrW sg ((u.th a) &&& (t.th b)) (fun w => u.ce (a * u.wi + w)) (fun w => t.ce (b * t.wi + w)) t.ce (g * t.wi) t.wi).1)) ((jrW sg ((u.th a) &&& (t.th b)) (fun w => u.ce (a * u.wi + w)) (fun w => t.ce (b * t.wi + w)) t.ce (g * t.wi) t.wi).2)) ++ (TbW dA tb u ++ (ws))) t9) A) (by decide) (Nat.le_of_ble_eq_true rfl) ?_
  intro A p e s m below meth c ls hsz hB
  obtain ⟨hx, hb, hr, hml, hown, hin, hlk, hE, hK, hP, hD, hS, hA, hN, hl⟩ := hB
  have hown : s.vm.findClass "SeriesVault$Table" = some m.cls := hown
  have hl : lv_has ls 17 [(0, .ref (ta 0)), (1, .int sg), (2, .ref (tb 0)), (3, .int (nI a)), (4, .ref (ta 0)), (5, .int (nI b)), (6, .int (nI g))] := hl
  obtain ⟨H, hH⟩ : ∃ z, z = s.heap := ⟨_, rfl⟩
  have hP : va_P D vwCl (TbW dA ta t ++ (TbW dA tb u ++ (ws))) H := by rw [hH]; exact hP
  have hS : va_S A s.heap H [] := by rw [hH]; exact hS
  rw [← hH]
  refine lv_aload_n hx hb d_T_joinRow_0 rfl (lv_at hl 2 rfl) ?_
  refine gF (v := .ref (tb 3)) hx hb hown hE hK hP 5 rfl rfl layT 5 (by decide) w788 rfl d_T_joinRow_1 ?_
  refine lv_iload_n hx hb d_T_joinRow_4 rfl (lv_at hl 3 rfl) ?_
  refine nlld (f := u.th) (n := 256) hx hb hK hP (8) 2 rfl rfl (a) (by omega) (by decide) d_T_joinRow_5 ?_
  refine lv_aload hx hb d_T_joinRow_6 (lv_at hl 4 rfl) ?_
  refine gF (v := .ref (ta 3)) hx hb hown hE hK hP 0 rfl rfl layT 5 (by decide) w788 rfl d_T_joinRow_8 ?_
  refine lv_iload hx hb d_T_joinRow_11 (lv_at hl 5 rfl) ?_
  refine nlld (f := t.th) (n := 256) hx hb hK hP (3) 2 rfl rfl (b) (by omega) (by decide) d_T_joinRow_13 ?_
  refine lv_land hx hb d_T_joinRow_14 ?_
  refine lv_lstore hx hb d_T_joinRow_15 hl (by decide) rfl (fun ls hl => ?_)
  have hl : lv_has ls 17 [(7, .long ((u.th a) &&& (t.th b))), (0, .ref (ta 0)), (1, .int sg), (2, .ref (tb 0)), (3, .int (nI a)), (4, .ref (ta 0)), (5, .int (nI b)), (6, .int (nI g))] := hl
  refine lv_lconst (v := 0) hx hb d_T_joinRow_17 (by decide) ?_
  refine lv_lstore hx hb d_T_joinRow_18 hl (by decide) rfl (fun ls hl => ?_)
  have hl : lv_has ls 17 [(9, .long 0), (7, .long ((u.th a) &&& (t.th b))), (0, .ref (ta 0)), (1, .int sg), (2, .ref (tb 0)), (3, .int (nI a)), (4, .ref (ta 0)), (5, .int (nI b)), (6, .int (nI g))] := hl
  refine lv_iconst (v := 0) hx hb d_T_joinRow_20 (by decide) ?_
  refine lv_istore hx hb d_T_joinRow_21 hl (by decide) rfl (fun ls hl => ?_)
  have hl : lv_has ls 17 [(11, .int 0), (9, .long 0), (7, .long ((u.th a) &&& (t.th b))), (0, .ref (ta 0)), (1, .int sg), (2, .ref (tb 0)), (3, .int (nI a)), (4, .ref (ta 0)), (5, .int (nI b)), (6, .int (nI g))] := hl
  have L23 : ∀ (k9 : Nat) (w : Nat) (st : Int64) (z : Nat → Int64) (i1 : w ≤ t.wi) (ez : jrW sg ((u.th a) &&& (t.th b)) (fun w => u.ce (a * u.wi + w)) (fun w => t.ce (b * t.wi + w)) t.ce (g * t.wi) w = (st, z)) (hk9 : t.wi - w = k9), ∀ (H : Heap) (locs : List Loc) (ls : Array Slot) (hP : va_P D vwCl (TbW dA ta (TB.s_ce t z) ++ (TbW dA tb u ++ (ws))) H) (hD : va_D A (TbW dA ta (TB.s_ce t z) ++ (TbW dA tb u ++ (ws)))) (hS : va_S A s.heap H locs) (hl : lv_has ls 17 [(11, .int (nI w)), (9, .long st), (7, .long ((u.th a) &&& (t.th b))), (0, .ref (ta 0)), (1, .int sg), (2, .ref (tb 0)), (3, .int (nI a)), (4, .ref (ta 0)), (5, .int (nI b)), (6, .int (nI g))]), W p l e ({ frames := 2, cells := 0, slots := 0, locals := 24 } : Room) s m ([.ref (ta 0), .int sg, .ref (tb 0), .int (nI a), .ref (ta 0), .int (nI b), .int (nI g)] : List Value).toArray below meth c H locs 0 0 (MQ below (va_Qv (fun (u9 : Unit) => True) (fun (u9 : Unit) t9 => bW D A (TbW dA ta (TB.s_ce (TB.s_th t (va_up t.th g (jrW sg ((u.th a) &&& (t.th b)) (fun w => u.ce (a * u.wi + w)) (fun w => t.ce (b * t.wi + w)) t.ce (g * t.wi) t.wi).1)) ((jrW sg ((u.th a) &&& (t.th b)) (fun w => u.ce (a * u.wi + w)) (fun w => t.ce (b * t.wi + w)) t.ce (g * t.wi) t.wi).2)) ++ (TbW dA tb u ++ (ws))) t9) A) ([.ref (ta 0), .int sg, .ref (tb 0), .int (nI a), .ref (ta 0), .int (nI b), .int (nI g)] : List Value).toArray s 0 0 A) (F0 m 23 ls []) := by
    intro k9
    induction k9 using Nat.strongRecOn with
    | ind k9 ih23 =>
      intro w st z i1 ez hk9 H locs ls hP hD hS hl
      have hz : z = (jrW sg ((u.th a) &&& (t.th b)) (fun w => u.ce (a * u.wi + w)) (fun w => t.ce (b * t.wi + w)) t.ce (g * t.wi) w).2 := by rw [ez]
      refine lv_iload hx hb d_T_joinRow_23 (lv_at hl 0 rfl) ?_
      refine lv_aload_n hx hb d_T_joinRow_25 rfl (lv_at hl 3 rfl) ?_
      refine gF (v := .int (nI t.wi)) hx hb hown hE hK hP 0 rfl rfl layT 2 (by decide) w1367 rfl d_T_joinRow_26 ?_
      refine lv_icmp_ge hx hb d_T_joinRow_29 (tgt := 133) rfl (fun g1 => ?_) (fun g1 => ?_)
      · have g1 := (nI_leI (a := t.wi) (b := w) (by omega) (by omega)).mp g1
        refine lv_aload_n hx hb d_T_joinRow_133 rfl (lv_at hl 3 rfl) ?_
        refine gF (v := .ref (ta 3)) hx hb hown hE hK hP 0 rfl rfl layT 5 (by decide) w788 rfl d_T_joinRow_134 ?_
        refine lv_iload hx hb d_T_joinRow_137 (lv_at hl 9 rfl) ?_
        refine lv_lload hx hb d_T_joinRow_139 (lv_at hl 1 rfl) ?_
        refine nlst (n := 256) hx hb hK hP hD hS (3) 2 rfl rfl (g) (by omega) (by decide) d_T_joinRow_141 (fun H locs hP hD hS => ?_)
        have hP : va_P D vwCl (TbW dA ta (TB.s_ce (TB.s_th t (va_up t.th g st)) z) ++ (TbW dA tb u ++ (ws))) H := hP
        have hD : va_D A (TbW dA ta (TB.s_ce (TB.s_th t (va_up t.th g st)) z) ++ (TbW dA tb u ++ (ws))) := hD
        have e9 : (TB.s_ce (TB.s_th t (va_up t.th g st)) z : TB) = TB.s_ce (TB.s_th t (va_up t.th g (jrW sg ((u.th a) &&& (t.th b)) (fun w => u.ce (a * u.wi + w)) (fun w => t.ce (b * t.wi + w)) t.ce (g * t.wi) t.wi).1)) ((jrW sg ((u.th a) &&& (t.th b)) (fun w => u.ce (a * u.wi + w)) (fun w => t.ce (b * t.wi + w)) t.ce (g * t.wi) t.wi).2) := by rw [show (va_up t.th g (jrW sg ((u.th a) &&& (t.th b)) (fun w => u.ce (a * u.wi + w)) (fun w => t.ce (b * t.wi + w)) t.ce (g * t.wi) t.wi).1) = (va_up t.th g st) from by (have e8 := ez; rw [show w = t.wi by omega] at e8; rw [e8]), show ((jrW sg ((u.th a) &&& (t.th b)) (fun w => u.ce (a * u.wi + w)) (fun w => t.ce (b * t.wi + w)) t.ce (g * t.wi) t.wi).2) = z from by (have e8 := ez; rw [show w = t.wi by omega] at e8; rw [e8])] <;> rfl
        rw [e9] at hP hD
        exact rfV hx hb hr hlk hS () trivial hP hD (Nat.le_of_ble_eq_true rfl) (Nat.le_of_ble_eq_true rfl) d_T_joinRow_142
      · have g1 := mt (nI_leI (a := t.wi) (b := w) (by omega) (by omega)).mpr g1
        refine lv_aload_n hx hb d_T_joinRow_32 rfl (lv_at hl 5 rfl) ?_
        refine lv_iload_n hx hb d_T_joinRow_33 rfl (lv_at hl 6 rfl) ?_
        refine lv_iload hx hb d_T_joinRow_34 (lv_at hl 0 rfl) ?_
        have hP := pmP (show List.Perm (α := Nat × va_E) (TbW dA ta (TB.s_ce t z) ++ (TbW dA tb u ++ (ws))) (TbW dA tb u ++ (TbW dA ta (TB.s_ce t z) ++ (ws))) from List.perm_append_comm_assoc (TbW dA ta (TB.s_ce t z)) (TbW dA tb u) (ws)) hP
        have hD := pmD (show List.Perm (α := Nat × va_E) (TbW dA ta (TB.s_ce t z) ++ (TbW dA tb u ++ (ws))) (TbW dA tb u ++ (TbW dA ta (TB.s_ce t z) ++ (ws))) from List.perm_append_comm_assoc (TbW dA ta (TB.s_ce t z)) (TbW dA tb u) (ws)) hD
        refine jkL (wr := []) (rnV (As := [.int (nI a), .int (nI w)]) (rest := []) hx hb hml hown hE hK (hN _ _ hS) hP hD (v_TnumberAt l D dA H.size (TbW dA ta (TB.s_ce t z) ++ (ws)) tb u a w hcM (show a * u.wi + w < u.cN by omega)) (q0 := 0) rfl rfl w1414 w1413 w1415 w1416 w807 rfl rfl ⟨⟨by decide, by decide⟩, rfl⟩ ⟨(Nat.le_of_ble_eq_true rfl), (Nat.le_of_ble_eq_true rfl)⟩ rfl hl.1 rfl (Nat.le_of_ble_eq_true rfl) d_T_joinRow_36 ⟨(Nat.le_of_ble_eq_true rfl), (Nat.le_of_ble_eq_true rfl)⟩) hP hD hS hA (fun r2 u3 H locs hp9 hP hD hS => ?_)
        have hP : va_P D vwCl (TbW dA tb u ++ (TbW dA ta (TB.s_ce t z) ++ (ws))) H := hP
        have hD : va_D A (TbW dA tb u ++ (TbW dA ta (TB.s_ce t z) ++ (ws))) := hD
        replace hp9 : u.ce (a * u.wi + w) = r2 := Eq.symm hp9
        subst hp9
        refine tpl (y := (fun w => u.ce (a * u.wi + w)) w) rfl ?_
        refine lv_lstore hx hb d_T_joinRow_39 hl (by decide) rfl (fun ls hl => ?_)
        have hl : lv_has ls 17 [(12, .long ((fun w => u.ce (a * u.wi + w)) w)), (11, .int (nI w)), (9, .long st), (7, .long ((u.th a) &&& (t.th b))), (0, .ref (ta 0)), (1, .int sg), (2, .ref (tb 0)), (3, .int (nI a)), (4, .ref (ta 0)), (5, .int (nI b)), (6, .int (nI g))] := hl
        refine lv_aload hx hb d_T_joinRow_41 (lv_at hl 8 rfl) ?_
        refine lv_iload hx hb d_T_joinRow_43 (lv_at hl 9 rfl) ?_
        refine lv_iload hx hb d_T_joinRow_45 (lv_at hl 1 rfl) ?_
        have hP := pmP (show List.Perm (α := Nat × va_E) (TbW dA tb u ++ (TbW dA ta (TB.s_ce t z) ++ (ws))) (TbW dA ta (TB.s_ce t z) ++ (TbW dA tb u ++ (ws))) from List.perm_append_comm_assoc (TbW dA tb u) (TbW dA ta (TB.s_ce t z)) (ws)) hP
        have hD := pmD (show List.Perm (α := Nat × va_E) (TbW dA tb u ++ (TbW dA ta (TB.s_ce t z) ++ (ws))) (TbW dA ta (TB.s_ce t z) ++ (TbW dA tb u ++ (ws))) from List.perm_append_comm_assoc (TbW dA tb u) (TbW dA ta (TB.s_ce t z)) (ws)) hD
        refine jkL (wr := []) (rnV (As := [.int (nI b), .int (nI w)]) (rest := []) hx hb hml hown hE hK (hN _ _ hS) hP hD (v_TnumberAt l D dA H.size (TbW dA tb u ++ (ws)) ta (TB.s_ce t z) b w hcN (show b * t.wi + w < t.cN by omega)) (q0 := 0) rfl rfl w1414 w1413 w1415 w1416 w807 rfl rfl ⟨⟨by decide, by decide⟩, rfl⟩ ⟨(Nat.le_of_ble_eq_true rfl), (Nat.le_of_ble_eq_true rfl)⟩ rfl hl.1 rfl (Nat.le_of_ble_eq_true rfl) d_T_joinRow_47 ⟨(Nat.le_of_ble_eq_true rfl), (Nat.le_of_ble_eq_true rfl)⟩) hP hD hS hA (fun r4 u5 H locs hp9 hP hD hS => ?_)
        have hP : va_P D vwCl (TbW dA ta (TB.s_ce t z) ++ (TbW dA tb u ++ (ws))) H := hP
        have hD : va_D A (TbW dA ta (TB.s_ce t z) ++ (TbW dA tb u ++ (ws))) := hD
        replace hp9 : z (b * t.wi + w) = r4 := Eq.symm hp9
        subst hp9
        refine tpl (y := (fun w => t.ce (b * t.wi + w)) w) (by rw [hz]; exact jrW_at (jl_in hgb (by omega))) ?_
        refine lv_lstore hx hb d_T_joinRow_50 hl (by decide) rfl (fun ls hl => ?_)
        have hl : lv_has ls 17 [(14, .long ((fun w => t.ce (b * t.wi + w)) w)), (12, .long ((fun w => u.ce (a * u.wi + w)) w)), (11, .int (nI w)), (9, .long st), (7, .long ((u.th a) &&& (t.th b))), (0, .ref (ta 0)), (1, .int sg), (2, .ref (tb 0)), (3, .int (nI a)), (4, .ref (ta 0)), (5, .int (nI b)), (6, .int (nI g))] := hl
        have J71 : ∀ (dv : Bool) (edv : (decide (sg = 47) || decide (sg = 37)) = dv), ∀ (H : Heap) (locs : List Loc) (ls : Array Slot) (hP : va_P D vwCl (TbW dA ta (TB.s_ce t z) ++ (TbW dA tb u ++ (ws))) H) (hD : va_D A (TbW dA ta (TB.s_ce t z) ++ (TbW dA tb u ++ (ws)))) (hS : va_S A s.heap H locs) (hl : lv_has ls 17 [(11, .int (nI w)), (9, .long st), (7, .long ((u.th a) &&& (t.th b))), (0, .ref (ta 0)), (1, .int sg), (2, .ref (tb 0)), (3, .int (nI a)), (4, .ref (ta 0)), (5, .int (nI b)), (6, .int (nI g)), (16, .int (bI dv)), (12, .long ((fun w => u.ce (a * u.wi + w)) w)), (14, .long ((fun w => t.ce (b * t.wi + w)) w))]), W p l e ({ frames := 2, cells := 0, slots := 0, locals := 24 } : Room) s m ([.ref (ta 0), .int sg, .ref (tb 0), .int (nI a), .ref (ta 0), .int (nI b), .int (nI g)] : List Value).toArray below meth c H locs 0 0 (MQ below (va_Qv (fun (u9 : Unit) => True) (fun (u9 : Unit) t9 => bW D A (TbW dA ta (TB.s_ce (TB.s_th t (va_up t.th g (jrW sg ((u.th a) &&& (t.th b)) (fun w => u.ce (a * u.wi + w)) (fun w => t.ce (b * t.wi + w)) t.ce (g * t.wi) t.wi).1)) ((jrW sg ((u.th a) &&& (t.th b)) (fun w => u.ce (a * u.wi + w)) (fun w => t.ce (b * t.wi + w)) t.ce (g * t.wi) t.wi).2)) ++ (TbW dA tb u ++ (ws))) t9) A) ([.ref (ta 0), .int sg, .ref (tb 0), .int (nI a), .ref (ta 0), .int (nI b), .int (nI g)] : List Value).toArray s 0 0 A) (F0 m 71 ls []) := by
          intro dv edv H locs ls hP hD hS hl
          refine lv_lload hx hb d_T_joinRow_71 (lv_at hl 2 rfl) ?_
          refine lv_iload hx hb d_T_joinRow_73 (lv_at hl 0 rfl) ?_
          refine lv_lushr (v := ushL ((u.th a) &&& (t.th b)) (nI w)) hx hb d_T_joinRow_75 rfl ?_
          refine lv_lconst (v := 1) hx hb d_T_joinRow_76 (by decide) ?_
          refine lv_land hx hb d_T_joinRow_77 ?_
          refine lv_lconst (v := 1) hx hb d_T_joinRow_78 (by decide) ?_
          refine W.lcmp hx hb d_T_joinRow_79 ?_
          refine lv_if_ne hx hb d_T_joinRow_80 (tgt := 127) rfl (fun g6 => ?_) (fun g6 => ?_)
          · have g6 := mt (lg_cmp_eq _ _).mpr g6
            refine lv_iinc (k := 0) (v := nI (w + 1)) hx hb d_T_joinRow_127 hl rfl (iincN (w) 1 1 (by decide)) (by decide) rfl (fun ls hl => ?_)
            have hl : lv_has ls 17 [(11, .int (nI (w + 1))), (9, .long st), (7, .long ((u.th a) &&& (t.th b))), (0, .ref (ta 0)), (1, .int sg), (2, .ref (tb 0)), (3, .int (nI a)), (4, .ref (ta 0)), (5, .int (nI b)), (6, .int (nI g)), (16, .int (bI dv)), (12, .long ((fun w => u.ce (a * u.wi + w)) w)), (14, .long ((fun w => t.ce (b * t.wi + w)) w))] := hl
            refine lv_goto hx hb d_T_joinRow_130 (tgt := 23) rfl ?_
            exact ih23 _ (by omega) (w + 1) st z (by omega) (jrW_f (R := fun w => t.ce (b * t.wi + w)) (by unfold jnS; rw [decide_eq_false g6]; rfl) ez) rfl H _ ls hP hD hS (lv_sub hl [0, 1, 2, 3, 4, 5, 6, 7, 8, 9] rfl)
          · have g6 := (lg_cmp_eq _ _).mp g6
            refine lv_iload hx hb d_T_joinRow_83 (lv_at hl 10 rfl) ?_
            refine lv_if_eq hx hb d_T_joinRow_85 (tgt := 95) rfl (fun g7 => ?_) (fun g7 => ?_)
            · have g7 := bI_0 g7
              refine lv_lload hx hb d_T_joinRow_95 (lv_at hl 1 rfl) ?_
              refine lv_lconst (v := 1) hx hb d_T_joinRow_97 (by decide) ?_
              refine lv_iload hx hb d_T_joinRow_98 (lv_at hl 0 rfl) ?_
              refine lv_lshl hx hb d_T_joinRow_100 rfl ?_
              refine lv_lor hx hb d_T_joinRow_101 ?_
              refine lv_lstore hx hb d_T_joinRow_102 hl (by decide) rfl (fun ls hl => ?_)
              have hl : lv_has ls 17 [(9, .long (st ||| (1 <<< ((nI w).toInt64 &&& 63)))), (11, .int (nI w)), (7, .long ((u.th a) &&& (t.th b))), (0, .ref (ta 0)), (1, .int sg), (2, .ref (tb 0)), (3, .int (nI a)), (4, .ref (ta 0)), (5, .int (nI b)), (6, .int (nI g)), (16, .int (bI dv)), (12, .long ((fun w => u.ce (a * u.wi + w)) w)), (14, .long ((fun w => t.ce (b * t.wi + w)) w))] := hl
              refine lv_aload_n hx hb d_T_joinRow_104 rfl (lv_at hl 3 rfl) ?_
              refine gF (v := .ref t.cA) hx hb hown hE hK hP 0 rfl rfl layT 6 (by decide) w789 rfl d_T_joinRow_105 ?_
              refine lv_iload hx hb d_T_joinRow_108 (lv_at hl 9 rfl) ?_
              refine lv_aload_n hx hb d_T_joinRow_110 rfl (lv_at hl 3 rfl) ?_
              refine gF (v := .int (nI t.wi)) hx hb hown hE hK hP 0 rfl rfl layT 2 (by decide) w1367 rfl d_T_joinRow_111 ?_
              refine lv_imul hx hb d_T_joinRow_114 (tpi (y := nI (g * t.wi)) (pk_mul (g) (t.wi)) ?_)
              refine lv_iload hx hb d_T_joinRow_115 (lv_at hl 1 rfl) ?_
              refine lv_iadd hx hb d_T_joinRow_117 (tpi (y := nI ((g * t.wi) + w)) (nI_add (g * t.wi) (w)) ?_)
              refine lv_iload_n hx hb d_T_joinRow_118 rfl (lv_at hl 4 rfl) ?_
              refine lv_lload hx hb d_T_joinRow_119 (lv_at hl 11 rfl) ?_
              refine lv_lload hx hb d_T_joinRow_121 (lv_at hl 12 rfl) ?_
              have hPc := hP.sub (ws' := []) [] rfl
              have hDc := hD.sub (ws' := []) [] (by decide) rfl
              refine jpL (rnS (As := [.int sg, .long ((fun w => u.ce (a * u.wi + w)) w), .long ((fun w => t.ce (b * t.wi + w)) w)]) (rest := [.int (nI ((g * t.wi) + w)), .ref t.cA]) hx hb hml hown hE hK (hN _ _ hS) hPc hDc (v_Tjoined l D dA H.size sg ((fun w => u.ce (a * u.wi + w)) w) ((fun w => t.ce (b * t.wi + w)) w) hop) w1418 w1417 w1419 w807 rfl rfl ⟨⟨by decide, by decide⟩, rfl⟩ ⟨(Nat.le_of_ble_eq_true rfl), (Nat.le_of_ble_eq_true rfl)⟩ rfl hl.1 rfl (Nat.le_of_ble_eq_true rfl) d_T_joinRow_123 ⟨(Nat.le_of_ble_eq_true rfl), (Nat.le_of_ble_eq_true rfl)⟩) hP hD hS hA (fun r8 u9 H locs hp9 hP hD hS => ?_)
              have hP : va_P D vwCl (TbW dA ta (TB.s_ce t z) ++ (TbW dA tb u ++ (ws))) H := hP
              have hD : va_D A (TbW dA ta (TB.s_ce t z) ++ (TbW dA tb u ++ (ws))) := hD
              replace hp9 : jnVl sg ((fun w => u.ce (a * u.wi + w)) w) ((fun w => t.ce (b * t.wi + w)) w) = r8 := Eq.symm hp9
              subst hp9
              refine nlst (n := t.cN) hx hb hK hP hD hS (4) 2 rfl rfl ((g * t.wi) + w) (by omega) (by omega) d_T_joinRow_126 (fun H locs hP hD hS => ?_)
              have hP : va_P D vwCl (TbW dA ta (TB.s_ce t (va_up z ((g * t.wi) + w) (jnVl sg ((fun w => u.ce (a * u.wi + w)) w) ((fun w => t.ce (b * t.wi + w)) w)))) ++ (TbW dA tb u ++ (ws))) H := hP
              have hD : va_D A (TbW dA ta (TB.s_ce t (va_up z ((g * t.wi) + w) (jnVl sg ((fun w => u.ce (a * u.wi + w)) w) ((fun w => t.ce (b * t.wi + w)) w)))) ++ (TbW dA tb u ++ (ws))) := hD
              refine lv_iinc (k := 1) (v := nI (w + 1)) hx hb d_T_joinRow_127 hl rfl (iincN (w) 1 1 (by decide)) (by decide) rfl (fun ls hl => ?_)
              have hl : lv_has ls 17 [(11, .int (nI (w + 1))), (9, .long (st ||| (1 <<< ((nI w).toInt64 &&& 63)))), (7, .long ((u.th a) &&& (t.th b))), (0, .ref (ta 0)), (1, .int sg), (2, .ref (tb 0)), (3, .int (nI a)), (4, .ref (ta 0)), (5, .int (nI b)), (6, .int (nI g)), (16, .int (bI dv)), (12, .long ((fun w => u.ce (a * u.wi + w)) w)), (14, .long ((fun w => t.ce (b * t.wi + w)) w))] := hl
              refine lv_goto hx hb d_T_joinRow_130 (tgt := 23) rfl ?_
              exact ih23 _ (by omega) (w + 1) (st ||| (1 <<< ((nI w).toInt64 &&& 63))) (va_up z ((g * t.wi) + w) (jnVl sg ((fun w => u.ce (a * u.wi + w)) w) ((fun w => t.ce (b * t.wi + w)) w))) (by omega) (jrW_t (R := fun w => t.ce (b * t.wi + w)) (by unfold jnS; rw [decide_eq_true g6, show (decide (sg = 47) || decide (sg = 37)) = false from edv.trans g7]; rfl) ez) rfl H _ ls hP hD hS (lv_sub hl [0, 1, 2, 3, 4, 5, 6, 7, 8, 9] rfl)
            · have g7 := bI_n0 g7
              refine lv_lload hx hb d_T_joinRow_88 (lv_at hl 12 rfl) ?_
              refine lv_lconst (v := 0) hx hb d_T_joinRow_90 (by decide) ?_
              refine W.lcmp hx hb d_T_joinRow_91 ?_
              refine lv_if_eq hx hb d_T_joinRow_92 (tgt := 127) rfl (fun g10 => ?_) (fun g10 => ?_)
              · have g10 := (lg_cmp_eq _ _).mp g10
                refine lv_iinc (k := 0) (v := nI (w + 1)) hx hb d_T_joinRow_127 hl rfl (iincN (w) 1 1 (by decide)) (by decide) rfl (fun ls hl => ?_)
                have hl : lv_has ls 17 [(11, .int (nI (w + 1))), (9, .long st), (7, .long ((u.th a) &&& (t.th b))), (0, .ref (ta 0)), (1, .int sg), (2, .ref (tb 0)), (3, .int (nI a)), (4, .ref (ta 0)), (5, .int (nI b)), (6, .int (nI g)), (16, .int (bI dv)), (12, .long ((fun w => u.ce (a * u.wi + w)) w)), (14, .long ((fun w => t.ce (b * t.wi + w)) w))] := hl
                refine lv_goto hx hb d_T_joinRow_130 (tgt := 23) rfl ?_
                exact ih23 _ (by omega) (w + 1) st z (by omega) (jrW_f (R := fun w => t.ce (b * t.wi + w)) (by unfold jnS; rw [decide_eq_true g6, show (decide (sg = 47) || decide (sg = 37)) = true from edv.trans g7, decide_eq_true g10]; rfl) ez) rfl H _ ls hP hD hS (lv_sub hl [0, 1, 2, 3, 4, 5, 6, 7, 8, 9] rfl)
              · have g10 := mt (lg_cmp_eq _ _).mpr g10
                refine lv_lload hx hb d_T_joinRow_95 (lv_at hl 1 rfl) ?_
                refine lv_lconst (v := 1) hx hb d_T_joinRow_97 (by decide) ?_
                refine lv_iload hx hb d_T_joinRow_98 (lv_at hl 0 rfl) ?_
                refine lv_lshl hx hb d_T_joinRow_100 rfl ?_
                refine lv_lor hx hb d_T_joinRow_101 ?_
                refine lv_lstore hx hb d_T_joinRow_102 hl (by decide) rfl (fun ls hl => ?_)
                have hl : lv_has ls 17 [(9, .long (st ||| (1 <<< ((nI w).toInt64 &&& 63)))), (11, .int (nI w)), (7, .long ((u.th a) &&& (t.th b))), (0, .ref (ta 0)), (1, .int sg), (2, .ref (tb 0)), (3, .int (nI a)), (4, .ref (ta 0)), (5, .int (nI b)), (6, .int (nI g)), (16, .int (bI dv)), (12, .long ((fun w => u.ce (a * u.wi + w)) w)), (14, .long ((fun w => t.ce (b * t.wi + w)) w))] := hl
                refine lv_aload_n hx hb d_T_joinRow_104 rfl (lv_at hl 3 rfl) ?_
                refine gF (v := .ref t.cA) hx hb hown hE hK hP 0 rfl rfl layT 6 (by decide) w789 rfl d_T_joinRow_105 ?_
                refine lv_iload hx hb d_T_joinRow_108 (lv_at hl 9 rfl) ?_
                refine lv_aload_n hx hb d_T_joinRow_110 rfl (lv_at hl 3 rfl) ?_
                refine gF (v := .int (nI t.wi)) hx hb hown hE hK hP 0 rfl rfl layT 2 (by decide) w1367 rfl d_T_joinRow_111 ?_
                refine lv_imul hx hb d_T_joinRow_114 (tpi (y := nI (g * t.wi)) (pk_mul (g) (t.wi)) ?_)
                refine lv_iload hx hb d_T_joinRow_115 (lv_at hl 1 rfl) ?_
                refine lv_iadd hx hb d_T_joinRow_117 (tpi (y := nI ((g * t.wi) + w)) (nI_add (g * t.wi) (w)) ?_)
                refine lv_iload_n hx hb d_T_joinRow_118 rfl (lv_at hl 4 rfl) ?_
                refine lv_lload hx hb d_T_joinRow_119 (lv_at hl 11 rfl) ?_
                refine lv_lload hx hb d_T_joinRow_121 (lv_at hl 12 rfl) ?_
                have hPc := hP.sub (ws' := []) [] rfl
                have hDc := hD.sub (ws' := []) [] (by decide) rfl
                refine jpL (rnS (As := [.int sg, .long ((fun w => u.ce (a * u.wi + w)) w), .long ((fun w => t.ce (b * t.wi + w)) w)]) (rest := [.int (nI ((g * t.wi) + w)), .ref t.cA]) hx hb hml hown hE hK (hN _ _ hS) hPc hDc (v_Tjoined l D dA H.size sg ((fun w => u.ce (a * u.wi + w)) w) ((fun w => t.ce (b * t.wi + w)) w) hop) w1418 w1417 w1419 w807 rfl rfl ⟨⟨by decide, by decide⟩, rfl⟩ ⟨(Nat.le_of_ble_eq_true rfl), (Nat.le_of_ble_eq_true rfl)⟩ rfl hl.1 rfl (Nat.le_of_ble_eq_true rfl) d_T_joinRow_123 ⟨(Nat.le_of_ble_eq_true rfl), (Nat.le_of_ble_eq_true rfl)⟩) hP hD hS hA (fun r11 u9 H locs hp9 hP hD hS => ?_)
                have hP : va_P D vwCl (TbW dA ta (TB.s_ce t z) ++ (TbW dA tb u ++ (ws))) H := hP
                have hD : va_D A (TbW dA ta (TB.s_ce t z) ++ (TbW dA tb u ++ (ws))) := hD
                replace hp9 : jnVl sg ((fun w => u.ce (a * u.wi + w)) w) ((fun w => t.ce (b * t.wi + w)) w) = r11 := Eq.symm hp9
                subst hp9
                refine nlst (n := t.cN) hx hb hK hP hD hS (4) 2 rfl rfl ((g * t.wi) + w) (by omega) (by omega) d_T_joinRow_126 (fun H locs hP hD hS => ?_)
                have hP : va_P D vwCl (TbW dA ta (TB.s_ce t (va_up z ((g * t.wi) + w) (jnVl sg ((fun w => u.ce (a * u.wi + w)) w) ((fun w => t.ce (b * t.wi + w)) w)))) ++ (TbW dA tb u ++ (ws))) H := hP
                have hD : va_D A (TbW dA ta (TB.s_ce t (va_up z ((g * t.wi) + w) (jnVl sg ((fun w => u.ce (a * u.wi + w)) w) ((fun w => t.ce (b * t.wi + w)) w)))) ++ (TbW dA tb u ++ (ws))) := hD
                refine lv_iinc (k := 1) (v := nI (w + 1)) hx hb d_T_joinRow_127 hl rfl (iincN (w) 1 1 (by decide)) (by decide) rfl (fun ls hl => ?_)
                have hl : lv_has ls 17 [(11, .int (nI (w + 1))), (9, .long (st ||| (1 <<< ((nI w).toInt64 &&& 63)))), (7, .long ((u.th a) &&& (t.th b))), (0, .ref (ta 0)), (1, .int sg), (2, .ref (tb 0)), (3, .int (nI a)), (4, .ref (ta 0)), (5, .int (nI b)), (6, .int (nI g)), (16, .int (bI dv)), (12, .long ((fun w => u.ce (a * u.wi + w)) w)), (14, .long ((fun w => t.ce (b * t.wi + w)) w))] := hl
                refine lv_goto hx hb d_T_joinRow_130 (tgt := 23) rfl ?_
                exact ih23 _ (by omega) (w + 1) (st ||| (1 <<< ((nI w).toInt64 &&& 63))) (va_up z ((g * t.wi) + w) (jnVl sg ((fun w => u.ce (a * u.wi + w)) w) ((fun w => t.ce (b * t.wi + w)) w))) (by omega) (jrW_t (R := fun w => t.ce (b * t.wi + w)) (by unfold jnS; rw [decide_eq_true g6, decide_eq_false g10, Bool.and_false]; rfl) ez) rfl H _ ls hP hD hS (lv_sub hl [0, 1, 2, 3, 4, 5, 6, 7, 8, 9] rfl)
        refine lv_iload_n hx hb d_T_joinRow_52 rfl (lv_at hl 6 rfl) ?_
        refine lv_bipush (v := 47) hx hb d_T_joinRow_53 (by decide) ?_
        refine lv_icmp_eq hx hb d_T_joinRow_55 (tgt := 64) rfl (fun g13 => ?_) (fun g13 => ?_)
        · have g13 := g13
          refine lv_iconst (v := 1) hx hb d_T_joinRow_64 (by decide) ?_
          refine lv_goto hx hb d_T_joinRow_65 (tgt := 69) rfl ?_
          refine lv_istore hx hb d_T_joinRow_69 hl (by decide) rfl (fun ls hl => ?_)
          have hl : lv_has ls 17 [(16, .int 1), (14, .long ((fun w => t.ce (b * t.wi + w)) w)), (12, .long ((fun w => u.ce (a * u.wi + w)) w)), (11, .int (nI w)), (9, .long st), (7, .long ((u.th a) &&& (t.th b))), (0, .ref (ta 0)), (1, .int sg), (2, .ref (tb 0)), (3, .int (nI a)), (4, .ref (ta 0)), (5, .int (nI b)), (6, .int (nI g))] := hl
          exact J71 true (by rw [decide_eq_true g13]; rfl) H _ ls hP hD hS (lv_sub hl [3, 4, 5, 6, 7, 8, 9, 10, 11, 12, 0, 2, 1] rfl)
        · have g13 := g13
          refine lv_iload_n hx hb d_T_joinRow_58 rfl (lv_at hl 6 rfl) ?_
          refine lv_bipush (v := 37) hx hb d_T_joinRow_59 (by decide) ?_
          refine lv_icmp_ne hx hb d_T_joinRow_61 (tgt := 68) rfl (fun g14 => ?_) (fun g14 => ?_)
          · have g14 := g14
            refine lv_iconst (v := 0) hx hb d_T_joinRow_68 (by decide) ?_
            refine lv_istore hx hb d_T_joinRow_69 hl (by decide) rfl (fun ls hl => ?_)
            have hl : lv_has ls 17 [(16, .int 0), (14, .long ((fun w => t.ce (b * t.wi + w)) w)), (12, .long ((fun w => u.ce (a * u.wi + w)) w)), (11, .int (nI w)), (9, .long st), (7, .long ((u.th a) &&& (t.th b))), (0, .ref (ta 0)), (1, .int sg), (2, .ref (tb 0)), (3, .int (nI a)), (4, .ref (ta 0)), (5, .int (nI b)), (6, .int (nI g))] := hl
            exact J71 false (by rw [decide_eq_false g13, decide_eq_false g14]; rfl) H _ ls hP hD hS (lv_sub hl [3, 4, 5, 6, 7, 8, 9, 10, 11, 12, 0, 2, 1] rfl)
          · have g14 := g14
            refine lv_iconst (v := 1) hx hb d_T_joinRow_64 (by decide) ?_
            refine lv_goto hx hb d_T_joinRow_65 (tgt := 69) rfl ?_
            refine lv_istore hx hb d_T_joinRow_69 hl (by decide) rfl (fun ls hl => ?_)
            have hl : lv_has ls 17 [(16, .int 1), (14, .long ((fun w => t.ce (b * t.wi + w)) w)), (12, .long ((fun w => u.ce (a * u.wi + w)) w)), (11, .int (nI w)), (9, .long st), (7, .long ((u.th a) &&& (t.th b))), (0, .ref (ta 0)), (1, .int sg), (2, .ref (tb 0)), (3, .int (nI a)), (4, .ref (ta 0)), (5, .int (nI b)), (6, .int (nI g))] := hl
            exact J71 true (by rw [decide_eq_false g13, decide_eq_true g14]; rfl) H _ ls hP hD hS (lv_sub hl [3, 4, 5, 6, 7, 8, 9, 10, 11, 12, 0, 2, 1] rfl)
  exact L23 _ 0 0 t.ce (Nat.zero_le _) rfl rfl H _ ls hP hD hS (lv_sub hl [0, 1, 2, 3, 4, 5, 6, 7, 8, 9] rfl)
