theorem v_getW (l : Launch) (D : va_G) (dA : Nat → ClassId) (sz : Nat) (h : Nat) (ad : Nat → Nat) (x : VS) (la : Nat → Nat) (g : LI) (AT : Nat → Nat → Nat) (T : Nat → TB) (r : va_W) (i : Nat) (hk : skP dA ad r x la g AT T) (hi : i < g.sz) : Met l ⟨"java/util/ArrayList", "get", "(I)Ljava/lang/Object;"⟩ [Cond.code ⟨"java/util/ArrayList", "get", "(I)Ljava/lang/Object;"⟩ prog_37_method_20_code 2 (some (FieldType.object "java/lang/Object"))] { frames := 3, cells := 0, slots := 0, locals := 43 } (pC D dA [.ref (la 0), .int (nI i)] (VW dA h ad x) sz) (va_Qr (fun (_ : Unit) => True) (fun (u9 : Unit) (r9 : Nat) t9 => (AT i 0 = r9) ∧ bW D (va_A (VW dA h ad x) sz) (VW dA h ad x) t9) (va_A (VW dA h ad x) sz)) 0 0 (va_A (VW dA h ad x) sz) := by
  obtain ⟨k1, k2, k3, k4, k5, k6⟩ := hk
  have p := llQ (dA := dA) (h := h) (ad := ad) k1
  rw [vaA_pm p]
  refine Met_mono (v_Lget l D dA sz (VW dA h ad (VS.s_ll x (tbs dA AT T g.sz ++ r))) la g i (AT i 0) k3 (by omega) hi (k6 i hi)) (Nat.le_refl _) (Nat.le_refl _) (Nat.le_refl _) (Nat.le_refl _) (Nat.le_refl _) (Nat.le_refl _) (fun _ _ q => pC_pm p q) ?_ (fun _ q => q)
  rintro b9 st o9 t9 ⟨⟨u, a9, c1, -, c3, c4⟩, c5⟩
  exact ⟨⟨(), a9, c1, trivial, c3, bW_pm p.symm c4⟩, c5⟩
theorem sk_m {dA : Nat → ClassId} {ad : Nat → Nat} {r : va_W} {x : VS} {la : Nat → Nat} {g : LI} {AT : Nat → Nat → Nat} {T : Nat → TB} {i : Nat} (hk : skP dA ad r x la g AT T) (hi : i < g.sz) : ∃ vs : List Value, (AT i 0, .inr (8, vs)) ∈ x.ll := by
  obtain ⟨vs, hv⟩ := tb_hd (dA := dA) (ta := AT i) (t := T i)
  exact ⟨vs, hk.1.mem_iff.mpr (List.mem_append_right _ (List.mem_append_left _ (tbs_in hi _ hv)))⟩
theorem sk_l {dA : Nat → ClassId} {ad : Nat → Nat} {r : va_W} {x : VS} {la : Nat → Nat} {g : LI} {AT : Nat → Nat → Nat} {T : Nat → TB} (hk : skP dA ad r x la g AT T) : ∃ vs : List Value, (la 0, .inr (6, vs)) ∈ x.ll := ⟨[.ref g.eA, .int (nI g.sz), .int g.mc], hk.1.mem_iff.mpr (List.mem_append_left _ (List.mem_of_getElem? (i := 0) rfl))⟩
def VS.wk0 (x : VS) (fr wd : Int64) (nw : Nat) : VS := VS.s_awi (VS.s_awd (VS.s_afr (VS.s_adep x 0) fr) wd) nw
theorem d_A_work_0 : decode prog_2_method_3_code 0 = .ok (.aload_n 0, 1) := by decide +kernel
theorem d_A_work_1 : decode prog_2_method_3_code 1 = .ok (.lload 5, 2) := by decide +kernel
theorem d_A_work_3 : decode prog_2_method_3_code 3 = .ok (.putfield 47, 3) := by decide +kernel
theorem d_A_work_6 : decode prog_2_method_3_code 6 = .ok (.aload_n 0, 1) := by decide +kernel
theorem d_A_work_7 : decode prog_2_method_3_code 7 = .ok (.lload 7, 2) := by decide +kernel
theorem d_A_work_9 : decode prog_2_method_3_code 9 = .ok (.putfield 51, 3) := by decide +kernel
theorem d_A_work_12 : decode prog_2_method_3_code 12 = .ok (.aload_n 0, 1) := by decide +kernel
theorem d_A_work_13 : decode prog_2_method_3_code 13 = .ok (.iload 9, 2) := by decide +kernel
theorem d_A_work_15 : decode prog_2_method_3_code 15 = .ok (.putfield 54, 3) := by decide +kernel
theorem d_A_work_18 : decode prog_2_method_3_code 18 = .ok (.aload_n 0, 1) := by decide +kernel
theorem d_A_work_19 : decode prog_2_method_3_code 19 = .ok (.iconst 0, 1) := by decide +kernel
theorem d_A_work_20 : decode prog_2_method_3_code 20 = .ok (.putfield 58, 3) := by decide +kernel
theorem d_A_work_23 : decode prog_2_method_3_code 23 = .ok (.iconst 0, 1) := by decide +kernel
theorem d_A_work_24 : decode prog_2_method_3_code 24 = .ok (.istore 10, 2) := by decide +kernel
theorem d_A_work_26 : decode prog_2_method_3_code 26 = .ok (.iload 10, 2) := by decide +kernel
theorem d_A_work_28 : decode prog_2_method_3_code 28 = .ok (.aload_n 1, 1) := by decide +kernel
theorem d_A_work_29 : decode prog_2_method_3_code 29 = .ok (.getfield 61, 3) := by decide +kernel
theorem d_A_work_32 : decode prog_2_method_3_code 32 = .ok (.invokevirtual 66, 3) := by decide +kernel
theorem d_A_work_35 : decode prog_2_method_3_code 35 = .ok (.if_icmp .ge 137, 3) := by decide +kernel
theorem d_A_work_172 : decode prog_2_method_3_code 172 = .ok (.iconst (-1), 1) := by decide +kernel
theorem d_A_work_173 : decode prog_2_method_3_code 173 = .ok (.ireturn, 1) := by decide +kernel
theorem d_A_work_38 : decode prog_2_method_3_code 38 = .ok (.aload_n 1, 1) := by decide +kernel
theorem d_A_work_39 : decode prog_2_method_3_code 39 = .ok (.getfield 61, 3) := by decide +kernel
theorem d_A_work_42 : decode prog_2_method_3_code 42 = .ok (.iload 10, 2) := by decide +kernel
theorem d_A_work_44 : decode prog_2_method_3_code 44 = .ok (.invokevirtual 43, 3) := by decide +kernel
theorem d_A_work_47 : decode prog_2_method_3_code 47 = .ok (.checkcast 70, 3) := by decide +kernel
theorem d_A_work_50 : decode prog_2_method_3_code 50 = .ok (.astore 11, 2) := by decide +kernel
theorem d_A_work_52 : decode prog_2_method_3_code 52 = .ok (.aload 11, 2) := by decide +kernel
theorem d_A_work_54 : decode prog_2_method_3_code 54 = .ok (.getfield 72, 3) := by decide +kernel
theorem d_A_work_57 : decode prog_2_method_3_code 57 = .ok (.lookupswitch 91 #[(257, 35), (264, 52), (265, 69)], 35) := by decide +kernel
theorem d_A_work_92 : decode prog_2_method_3_code 92 = .ok (.aload_n 0, 1) := by decide +kernel
theorem d_A_work_93 : decode prog_2_method_3_code 93 = .ok (.invokevirtual 75, 3) := by decide +kernel
theorem d_A_work_96 : decode prog_2_method_3_code 96 = .ok (.aload 11, 2) := by decide +kernel
theorem d_A_work_98 : decode prog_2_method_3_code 98 = .ok (.getfield 79, 3) := by decide +kernel
theorem d_A_work_101 : decode prog_2_method_3_code 101 = .ok (.iload 9, 2) := by decide +kernel
theorem d_A_work_103 : decode prog_2_method_3_code 103 = .ok (.invokevirtual 82, 3) := by decide +kernel
theorem d_A_work_106 : decode prog_2_method_3_code 106 = .ok (.goto 60, 3) := by decide +kernel
theorem d_A_work_166 : decode prog_2_method_3_code 166 = .ok (.iinc 10 1, 3) := by decide +kernel
theorem d_A_work_169 : decode prog_2_method_3_code 169 = .ok (.goto (-143), 3) := by decide +kernel
theorem d_A_work_109 : decode prog_2_method_3_code 109 = .ok (.aload_n 0, 1) := by decide +kernel
theorem d_A_work_110 : decode prog_2_method_3_code 110 = .ok (.aload 11, 2) := by decide +kernel
theorem d_A_work_112 : decode prog_2_method_3_code 112 = .ok (.aload_n 0, 1) := by decide +kernel
theorem d_A_work_113 : decode prog_2_method_3_code 113 = .ok (.invokevirtual 75, 3) := by decide +kernel
theorem d_A_work_116 : decode prog_2_method_3_code 116 = .ok (.aload_n 2, 1) := by decide +kernel
theorem d_A_work_117 : decode prog_2_method_3_code 117 = .ok (.aload_n 3, 1) := by decide +kernel
theorem d_A_work_118 : decode prog_2_method_3_code 118 = .ok (.aload 4, 2) := by decide +kernel
theorem d_A_work_120 : decode prog_2_method_3_code 120 = .ok (.invokevirtual 86, 3) := by decide +kernel
theorem d_A_work_123 : decode prog_2_method_3_code 123 = .ok (.goto 43, 3) := by decide +kernel
theorem d_A_work_126 : decode prog_2_method_3_code 126 = .ok (.aload_n 0, 1) := by decide +kernel
theorem d_A_work_127 : decode prog_2_method_3_code 127 = .ok (.getfield 12, 3) := by decide +kernel
theorem d_A_work_130 : decode prog_2_method_3_code 130 = .ok (.aload_n 0, 1) := by decide +kernel
theorem d_A_work_131 : decode prog_2_method_3_code 131 = .ok (.getfield 58, 3) := by decide +kernel
theorem d_A_work_134 : decode prog_2_method_3_code 134 = .ok (.iconst 1, 1) := by decide +kernel
theorem d_A_work_135 : decode prog_2_method_3_code 135 = .ok (.isub, 1) := by decide +kernel
theorem d_A_work_136 : decode prog_2_method_3_code 136 = .ok (.invokevirtual 43, 3) := by decide +kernel
theorem d_A_work_139 : decode prog_2_method_3_code 139 = .ok (.checkcast 36, 3) := by decide +kernel
theorem d_A_work_142 : decode prog_2_method_3_code 142 = .ok (.invokevirtual 90, 3) := by decide +kernel
theorem d_A_work_145 : decode prog_2_method_3_code 145 = .ok (.goto 21, 3) := by decide +kernel
theorem d_A_work_148 : decode prog_2_method_3_code 148 = .ok (.aload_n 0, 1) := by decide +kernel
theorem d_A_work_149 : decode prog_2_method_3_code 149 = .ok (.aload 11, 2) := by decide +kernel
theorem d_A_work_151 : decode prog_2_method_3_code 151 = .ok (.getfield 72, 3) := by decide +kernel
theorem d_A_work_154 : decode prog_2_method_3_code 154 = .ok (.invokevirtual 93, 3) := by decide +kernel
theorem d_A_work_157 : decode prog_2_method_3_code 157 = .ok (.ifCond .ne 9, 3) := by decide +kernel
theorem d_A_work_160 : decode prog_2_method_3_code 160 = .ok (.aload 11, 2) := by decide +kernel
theorem d_A_work_162 : decode prog_2_method_3_code 162 = .ok (.getfield 97, 3) := by decide +kernel
theorem d_A_work_165 : decode prog_2_method_3_code 165 = .ok (.ireturn, 1) := by decide +kernel
theorem w1763 : Cond.fieldLinkNest "SeriesVault$Answers" 61 "SeriesVault$Question" "steps" "Ljava/util/ArrayList;" "SeriesVault" ∈ aW := aw_of (tb_2 (List.mem_of_getElem? (i := 16) rfl)) rfl
theorem w1764 : Cond.classLink "SeriesVault$Answers" 70 "SeriesVault$Step" ∈ aW := aw_of (tb_7 (List.mem_of_getElem? (i := 135) rfl)) rfl
theorem w1765 : Cond.fieldLinkNest "SeriesVault$Answers" 72 "SeriesVault$Step" "kind" "I" "SeriesVault" ∈ aW := aw_of (tb_7 (List.mem_of_getElem? (i := 11) rfl)) rfl
theorem w1766 : Cond.methodLink "SeriesVault$Answers" 75 ⟨"SeriesVault$Answers", "push", "()LSeriesVault$Table;"⟩ ∈ aW := aw_of (tb_7 (List.mem_of_getElem? (i := 136) rfl)) rfl
theorem w1767 : Cond.code ⟨"SeriesVault$Answers", "push", "()LSeriesVault$Table;"⟩ prog_2_method_4_code 1 (some (FieldType.object "SeriesVault$Table")) ∈ aW := aw_of (tb_7 (List.mem_of_getElem? (i := 139) rfl)) rfl
theorem w1768 : Cond.instanceMethod ⟨"SeriesVault$Answers", "push", "()LSeriesVault$Table;"⟩ ∈ aW := aw_of (tb_7 (List.mem_of_getElem? (i := 138) rfl)) rfl
theorem w1769 : Cond.selects "SeriesVault$Answers" ⟨"SeriesVault$Answers", "push", "()LSeriesVault$Table;"⟩ ⟨"SeriesVault$Answers", "push", "()LSeriesVault$Table;"⟩ ∈ aW := aw_pr (List.mem_map.mpr ⟨_, pv_4 (List.mem_of_getElem? (i := 3) rfl), rfl⟩) rfl
theorem w1770 : Cond.methodLink "SeriesVault$Answers" 82 ⟨"SeriesVault$Table", "makeNumber", "(JI)V"⟩ ∈ aW := aw_of (tb_7 (List.mem_of_getElem? (i := 140) rfl)) rfl
theorem w1771 : Cond.code ⟨"SeriesVault$Table", "makeNumber", "(JI)V"⟩ prog_11_method_2_code 5 none ∈ aW := aw_of (tb_7 (List.mem_of_getElem? (i := 143) rfl)) rfl
theorem w1772 : Cond.instanceMethod ⟨"SeriesVault$Table", "makeNumber", "(JI)V"⟩ ∈ aW := aw_of (tb_7 (List.mem_of_getElem? (i := 141) rfl)) rfl
theorem w1773 : Cond.selects "SeriesVault$Table" ⟨"SeriesVault$Table", "makeNumber", "(JI)V"⟩ ⟨"SeriesVault$Table", "makeNumber", "(JI)V"⟩ ∈ aW := aw_of (tb_7 (List.mem_of_getElem? (i := 142) rfl)) rfl
theorem w1774 : Cond.methodLink "SeriesVault$Answers" 86 ⟨"SeriesVault$Answers", "pick", "(LSeriesVault$Step;LSeriesVault$Table;[LSeriesVault$Series;LSeriesVault$Shelf;LSeriesVault$Points;)V"⟩ ∈ aW := aw_of (tb_7 (List.mem_of_getElem? (i := 184) rfl)) rfl
theorem w1775 : Cond.code ⟨"SeriesVault$Answers", "pick", "(LSeriesVault$Step;LSeriesVault$Table;[LSeriesVault$Series;LSeriesVault$Shelf;LSeriesVault$Points;)V"⟩ prog_2_method_6_code 7 none ∈ aW := aw_of (tb_7 (List.mem_of_getElem? (i := 187) rfl)) rfl
theorem w1776 : Cond.instanceMethod ⟨"SeriesVault$Answers", "pick", "(LSeriesVault$Step;LSeriesVault$Table;[LSeriesVault$Series;LSeriesVault$Shelf;LSeriesVault$Points;)V"⟩ ∈ aW := aw_of (tb_7 (List.mem_of_getElem? (i := 186) rfl)) rfl
theorem w1777 : Cond.selects "SeriesVault$Answers" ⟨"SeriesVault$Answers", "pick", "(LSeriesVault$Step;LSeriesVault$Table;[LSeriesVault$Series;LSeriesVault$Shelf;LSeriesVault$Points;)V"⟩ ⟨"SeriesVault$Answers", "pick", "(LSeriesVault$Step;LSeriesVault$Table;[LSeriesVault$Series;LSeriesVault$Shelf;LSeriesVault$Points;)V"⟩ ∈ aW := aw_pr (List.mem_map.mpr ⟨_, pv_4 (List.mem_of_getElem? (i := 4) rfl), rfl⟩) rfl
theorem w1778 : Cond.methodLink "SeriesVault$Answers" 90 ⟨"SeriesVault$Table", "turn", "()V"⟩ ∈ aW := aw_of (tb_8 (List.mem_of_getElem? (i := 37) rfl)) rfl
theorem w1779 : Cond.code ⟨"SeriesVault$Table", "turn", "()V"⟩ prog_11_method_13_code 2 none ∈ aW := aw_of (tb_8 (List.mem_of_getElem? (i := 40) rfl)) rfl
theorem w1780 : Cond.instanceMethod ⟨"SeriesVault$Table", "turn", "()V"⟩ ∈ aW := aw_of (tb_8 (List.mem_of_getElem? (i := 38) rfl)) rfl
theorem w1781 : Cond.selects "SeriesVault$Table" ⟨"SeriesVault$Table", "turn", "()V"⟩ ⟨"SeriesVault$Table", "turn", "()V"⟩ ∈ aW := aw_of (tb_8 (List.mem_of_getElem? (i := 39) rfl)) rfl
theorem w1782 : Cond.methodLink "SeriesVault$Answers" 93 ⟨"SeriesVault$Answers", "join", "(I)Z"⟩ ∈ aW := aw_of (tb_8 (List.mem_of_getElem? (i := 41) rfl)) rfl
theorem w1783 : Cond.code ⟨"SeriesVault$Answers", "join", "(I)Z"⟩ prog_2_method_5_code 4 (some FieldType.boolean) ∈ aW := aw_of (tb_8 (List.mem_of_getElem? (i := 44) rfl)) rfl
theorem w1784 : Cond.instanceMethod ⟨"SeriesVault$Answers", "join", "(I)Z"⟩ ∈ aW := aw_of (tb_8 (List.mem_of_getElem? (i := 43) rfl)) rfl
theorem w1785 : Cond.selects "SeriesVault$Answers" ⟨"SeriesVault$Answers", "join", "(I)Z"⟩ ⟨"SeriesVault$Answers", "join", "(I)Z"⟩ ∈ aW := aw_pr (List.mem_map.mpr ⟨_, pv_4 (List.mem_of_getElem? (i := 14) rfl), rfl⟩) rfl
theorem w1786 : Cond.fieldLinkNest "SeriesVault$Answers" 97 "SeriesVault$Step" "place" "I" "SeriesVault" ∈ aW := aw_of (tb_7 (List.mem_of_getElem? (i := 13) rfl)) rfl
set_option maxHeartbeats 4000000 in
set_option maxRecDepth 100000 in
theorem v_work (l : Launch) (D : va_G) (dA : Nat → ClassId) (sz : Nat) (e0 mi : Nat) (h : Nat) (ad : Nat → Nat) (lb : Nat → Nat) (gs : LI) (x : VS) (fr : Int64) (wd : Int64) (nw : Nat) (la : Nat → Nat) (g : LI) (AT : Nat → Nat → Nat) (T : Nat → TB) (r : va_W) (S : List SP1) (SS : Nat → List LB) (PS : Nat → PT) (cC : Nat → Nat) (cS : Nat → Nat) (k : Nat) (hlb : lb 0 = ad 23) (hgs : gs.sz ≤ gs.eN) (hgn : gs.eN ≤ 65536) (hgl : gs.sz = S.length) (hst : stps dA x.pl gs 0 S) (hk : skP dA ad r x la g AT T) (hnw : nw ≤ 64) (hkn : knOk dA x.kn x.nser x.pl SS) (hps : psOk dA x.nP x.npc x.pl PS) (hpn : x.npc ≤ 32) (hs1 : x.nsc ≤ 64) (hs7 : ∀ q : Nat, q < x.nsc → x.nsO q < 2 ^ 31) (hns : x.nser ≤ 256) (hpo : ∀ k : Nat, k < x.npc → ∀ i : Nat, i < (PS k).n → (PS k).o i < x.nser ∧ wOk fr wd nw ((PS k).t i)) (hho : ∀ i : Nat, i < x.hsize → x.hO i < x.nser ∧ wOk fr wd nw (x.hT i)) (hhz : x.hsize ≤ x.hN) (hhN : x.hN ≤ 65536) (hkS : k ≤ S.length) (hcC : ∀ i : Nat, i ≤ k → cC i ≤ cC k ∧ cS i ≤ cS k) (hgo : ∀ (i : Nat) (a : SKT), i < k → wkR dA ad r la PS SS nw S ((x.wk0 fr wd nw), g, AT, T) i a → wkO dA ad r la SS (S.getD i (spO 0 0 0)) (cC i) (cC (i + 1)) (cS i) (cS (i + 1)) a) (hxx : ∀ a : SKT, k < S.length → wkR dA ad r la PS SS nw S ((x.wk0 fr wd nw), g, AT, T) k a → wkX dA (S.getD k (spO 0 0 0)) a) : Met l ⟨"SeriesVault$Answers", "work", "(LSeriesVault$Question;[LSeriesVault$Series;LSeriesVault$Shelf;LSeriesVault$Points;JJI)I"⟩ [Cond.code ⟨"SeriesVault$Answers", "work", "(LSeriesVault$Question;[LSeriesVault$Series;LSeriesVault$Shelf;LSeriesVault$Points;JJI)I"⟩ prog_2_method_3_code 12 (some FieldType.int)] { frames := 8, cells := cC k, slots := cS k, locals := 382 } (pCy D dA e0 mi [.ref (ad 24), .ref (ad 22), .ref (ad 17), .ref (ad 3), .ref (ad 1), .long fr, .long wd, .int (nI nw)] (LiW dA lb gs ++ (VW dA h ad x)) sz) (va_Qi (fun (r9 : Int32) (u9 : VS × LI × (Nat → Nat → Nat) × (Nat → TB)) => ((k = S.length ∧ r9 = (-1) ∧ wkR dA ad r la PS SS nw S ((x.wk0 fr wd nw), g, AT, T) k (u9.1, u9.2.1, u9.2.2.1, u9.2.2.2)) ∨ (k < S.length ∧ r9 = nI (S.getD k (spO 0 0 0)).2.1 ∧ ∃ (a : SKT) (NL NR : Nat → List Int32) (RS RU : Nat → List LB) (wi : Nat), wkR dA ad r la PS SS nw S ((x.wk0 fr wd nw), g, AT, T) k a ∧ tbK dA a.1.pl wi (a.2.2.2 (a.1.adep - 2)) NL RS ∧ tbK dA a.1.pl wi (a.2.2.2 (a.1.adep - 1)) NR RU ∧ jnC NL NR (a.2.2.2 (a.1.adep - 2)) (a.2.2.2 (a.1.adep - 1)) = 3 ∧ jnZ dA ad r la (S.getD k (spO 0 0 0)).1 NL NR RS RU a.1 a.2.1 a.2.2.1 a.2.2.2 u9.1 u9.2.1 u9.2.2.1 u9.2.2.2))) (fun (u9 : VS × LI × (Nat → Nat → Nat) × (Nat → TB)) t9 => bW D (va_A (LiW dA lb gs ++ (VW dA h ad x)) sz) (LiW dA lb gs ++ (VW dA h ad u9.1)) t9) (va_A (LiW dA lb gs ++ (VW dA h ad x)) sz)) (cC k) (cS k) (va_A (LiW dA lb gs ++ (VW dA h ad x)) sz) := by
  refine mkY (y := ⟨"SeriesVault$Answers", "work", "(LSeriesVault$Question;[LSeriesVault$Series;LSeriesVault$Shelf;LSeriesVault$Points;JJI)I"⟩) (cc := prog_2_method_3_code) (maxL := 12) (av := [.ref (ad 24), .ref (ad 22), .ref (ad 17), .ref (ad 3), .ref (ad 1), .long fr, .long wd, .int (nI nw)]) (ws := LiW dA lb gs ++ (VW dA h ad x)) (sz := sz) (Qc := fun A => va_Qi (fun (r9 : Int32) (u9 : VS × LI × (Nat → Nat → Nat) × (Nat → TB)) => ((k = S.length ∧ r9 = (-1) ∧ wkR dA ad r la PS SS nw S ((x.wk0 fr wd nw), g, AT, T) k (u9.1, u9.2.1, u9.2.2.1, u9.2.2.2)) ∨ (k < S.length ∧ r9 = nI (S.getD k (spO 0 0 0)).2.1 ∧ ∃ (a : SKT) (NL NR : Nat → List Int32) (RS RU : Nat → List LB) (wi : Nat), wkR dA ad r la PS SS nw S ((x.wk0 fr wd nw), g, AT, T) k a ∧ tbK dA a.1.pl wi (a.2.2.2 (a.1.adep - 2)) NL RS ∧ tbK dA a.1.pl wi (a.2.2.2 (a.1.adep - 1)) NR RU ∧ jnC NL NR (a.2.2.2 (a.1.adep - 2)) (a.2.2.2 (a.1.adep - 1)) = 3 ∧ jnZ dA ad r la (S.getD k (spO 0 0 0)).1 NL NR RS RU a.1 a.2.1 a.2.2.1 a.2.2.2 u9.1 u9.2.1 u9.2.2.1 u9.2.2.2))) (fun (u9 : VS × LI × (Nat → Nat → Nat) × (Nat → TB)) t9 => bW D A (LiW dA lb gs ++ (VW dA h ad u9.1)) t9) A) (by decide) (Nat.le_of_ble_eq_true rfl) ?_
  intro A p e s m below meth c ls hsz hZ hT hM hB
  obtain ⟨hx, hb, hr, hml, hown, hin, hlk, hE, hK, hP, hD, hS, hA, hN, hl⟩ := hB
  have hown : s.vm.findClass "SeriesVault$Answers" = some m.cls := hown
  have hl : lv_has ls 12 [(0, .ref (ad 24)), (1, .ref (ad 22)), (2, .ref (ad 17)), (3, .ref (ad 3)), (4, .ref (ad 1)), (5, .long fr), (7, .long wd), (9, .int (nI nw))] := hl
  obtain ⟨H, hH⟩ : ∃ z, z = s.heap := ⟨_, rfl⟩
  have hP : va_P D vwCl (LiW dA lb gs ++ (VW dA h ad x)) H := by rw [hH]; exact hP
  have hS : va_S A s.heap H [] := by rw [hH]; exact hS
  rw [← hH]
  refine lv_aload_n hx hb d_A_work_0 rfl (lv_at hl 0 rfl) ?_
  refine lv_lload hx hb d_A_work_1 (lv_at hl 5 rfl) ?_
  refine pF (v := .long fr) hx hb hown hE hK hP hD hS 39 rfl rfl layA tyA tokA nmA 7 (by decide) w1501 rfl rfl rfl (Nat.le_of_ble_eq_true rfl) d_A_work_3 (fun H locs hP hD hS => ?_)
  have hP : va_P D vwCl (LiW dA lb gs ++ (VW dA h ad (VS.s_afr x fr))) H := hP
  have hD : va_D A (LiW dA lb gs ++ (VW dA h ad (VS.s_afr x fr))) := hD
  refine lv_aload_n hx hb d_A_work_6 rfl (lv_at hl 0 rfl) ?_
  refine lv_lload hx hb d_A_work_7 (lv_at hl 6 rfl) ?_
  refine pF (v := .long wd) hx hb hown hE hK hP hD hS 39 rfl rfl layA tyA tokA nmA 8 (by decide) w1502 rfl rfl rfl (Nat.le_of_ble_eq_true rfl) d_A_work_9 (fun H locs hP hD hS => ?_)
  have hP : va_P D vwCl (LiW dA lb gs ++ (VW dA h ad (VS.s_awd (VS.s_afr x fr) wd))) H := hP
  have hD : va_D A (LiW dA lb gs ++ (VW dA h ad (VS.s_awd (VS.s_afr x fr) wd))) := hD
  refine lv_aload_n hx hb d_A_work_12 rfl (lv_at hl 0 rfl) ?_
  refine lv_iload hx hb d_A_work_13 (lv_at hl 7 rfl) ?_
  refine pF (v := .int (nI nw)) hx hb hown hE hK hP hD hS 39 rfl rfl layA tyA tokA nmA 9 (by decide) w1503 rfl rfl rfl (Nat.le_of_ble_eq_true rfl) d_A_work_15 (fun H locs hP hD hS => ?_)
  have hP : va_P D vwCl (LiW dA lb gs ++ (VW dA h ad (VS.s_awi (VS.s_awd (VS.s_afr x fr) wd) nw))) H := hP
  have hD : va_D A (LiW dA lb gs ++ (VW dA h ad (VS.s_awi (VS.s_awd (VS.s_afr x fr) wd) nw))) := hD
  refine lv_aload_n hx hb d_A_work_18 rfl (lv_at hl 0 rfl) ?_
  refine lv_iconst (v := 0) hx hb d_A_work_19 (by decide) ?_
  refine pF (v := .int (nI 0)) hx hb hown hE hK hP hD hS 39 rfl rfl layA tyA tokA nmA 1 (by decide) w1538 rfl rfl rfl (Nat.le_of_ble_eq_true rfl) d_A_work_20 (fun H locs hP hD hS => ?_)
  have hP : va_P D vwCl (LiW dA lb gs ++ (VW dA h ad (VS.s_awi (VS.s_awd (VS.s_afr (VS.s_adep x 0) fr) wd) nw))) H := hP
  have hD : va_D A (LiW dA lb gs ++ (VW dA h ad (VS.s_awi (VS.s_awd (VS.s_afr (VS.s_adep x 0) fr) wd) nw))) := hD
  refine lv_iconst (v := 0) hx hb d_A_work_23 (by decide) ?_
  refine lv_istore hx hb d_A_work_24 hl (by decide) rfl (fun ls hl => ?_)
  have hl : lv_has ls 12 [(10, .int 0), (0, .ref (ad 24)), (1, .ref (ad 22)), (2, .ref (ad 17)), (3, .ref (ad 3)), (4, .ref (ad 1)), (5, .long fr), (7, .long wd), (9, .int (nI nw))] := hl
  have L26 : ∀ (k9 : Nat) (i : Nat) (z : VS) (gk : LI) (AK : Nat → Nat → Nat) (TK : Nat → TB) (i1 : i ≤ k) (hR0 : wkR dA ad r la PS SS nw S ((x.wk0 fr wd nw), g, AT, T) i (z, gk, AK, TK)) (hk9 : S.length - i = k9), ∀ (H : Heap) (locs : List Loc) (ls : Array Slot) (hP : va_P D vwCl (LiW dA lb gs ++ (VW dA h ad z)) H) (hD : va_D A (LiW dA lb gs ++ (VW dA h ad z))) (hS : va_S A s.heap H locs) (hl : lv_has ls 12 [(10, .int (nI i)), (0, .ref (ad 24)), (1, .ref (ad 22)), (2, .ref (ad 17)), (3, .ref (ad 3)), (4, .ref (ad 1)), (5, .long fr), (7, .long wd), (9, .int (nI nw))]), W p l e ({ frames := 8, cells := cC k, slots := cS k, locals := 382 } : Room) s m ([.ref (ad 24), .ref (ad 22), .ref (ad 17), .ref (ad 3), .ref (ad 1), .long fr, .long wd, .int (nI nw)] : List Value).toArray below meth c H locs (cC i) (cS i) (MQ below (va_Qi (fun (r9 : Int32) (u9 : VS × LI × (Nat → Nat → Nat) × (Nat → TB)) => ((k = S.length ∧ r9 = (-1) ∧ wkR dA ad r la PS SS nw S ((x.wk0 fr wd nw), g, AT, T) k (u9.1, u9.2.1, u9.2.2.1, u9.2.2.2)) ∨ (k < S.length ∧ r9 = nI (S.getD k (spO 0 0 0)).2.1 ∧ ∃ (a : SKT) (NL NR : Nat → List Int32) (RS RU : Nat → List LB) (wi : Nat), wkR dA ad r la PS SS nw S ((x.wk0 fr wd nw), g, AT, T) k a ∧ tbK dA a.1.pl wi (a.2.2.2 (a.1.adep - 2)) NL RS ∧ tbK dA a.1.pl wi (a.2.2.2 (a.1.adep - 1)) NR RU ∧ jnC NL NR (a.2.2.2 (a.1.adep - 2)) (a.2.2.2 (a.1.adep - 1)) = 3 ∧ jnZ dA ad r la (S.getD k (spO 0 0 0)).1 NL NR RS RU a.1 a.2.1 a.2.2.1 a.2.2.2 u9.1 u9.2.1 u9.2.2.1 u9.2.2.2))) (fun (u9 : VS × LI × (Nat → Nat → Nat) × (Nat → TB)) t9 => bW D A (LiW dA lb gs ++ (VW dA h ad u9.1)) t9) A) ([.ref (ad 24), .ref (ad 22), .ref (ad 17), .ref (ad 3), .ref (ad 1), .long fr, .long wd, .int (nI nw)] : List Value).toArray s (cC k) (cS k) A) (F0 m 26 ls []) := by
    intro k9
    induction k9 using Nat.strongRecOn with
    | ind k9 ih26 =>
      intro i z gk AK TK i1 hR0 hk9 H locs ls hP hD hS hl
      have hwk := wk_k (show skQ dA ad r la ((x.wk0 fr wd nw), g, AT, T) from hk) hR0
      have hkz : skP dA ad r z la gk AK TK := hwk.2
      have haz : (x.wk0 fr wd nw).ak z := hwk.1
      have hcm := hcC i i1
      refine lv_iload hx hb d_A_work_26 (lv_at hl 0 rfl) ?_
      refine lv_aload_n hx hb d_A_work_28 rfl (lv_at hl 2 rfl) ?_
      refine gFN (v := .ref (ad 23)) hx hb hown hE hK hP 38 rfl rfl layQ 8 (by decide) w1763 rfl d_A_work_29 ?_
      rw [← hlb]
      refine jkI (wr := []) (rnV (As := []) (rest := [.int (nI i)]) hx hb hml hown hE hK (hN _ _ hS) hP hD (v_Lsize l D dA H.size (VW dA h ad z) lb gs) (q0 := 0) rfl rfl w1484 w1539 w1485 w1486 w680 rfl rfl ⟨⟨by decide, by decide⟩, rfl⟩ ⟨(Nat.le_of_ble_eq_true rfl), (Nat.le_of_ble_eq_true rfl)⟩ rfl hl.1 rfl (Nat.le_of_ble_eq_true rfl) d_A_work_32 ⟨(show cC i + 0 ≤ cC k by omega), (show cS i + 0 ≤ cS k by omega)⟩) hP hD hS hA (fun r1 u2 H locs hp9 hP hD hS => ?_)
      have hP : va_P D vwCl (LiW dA lb gs ++ (VW dA h ad z)) H := hP
      have hD : va_D A (LiW dA lb gs ++ (VW dA h ad z)) := hD
      replace hp9 : nI gs.sz = r1 := Eq.symm hp9
      subst hp9
      refine lv_icmp_ge hx hb d_A_work_35 (tgt := 172) rfl (fun g3 => ?_) (fun g3 => ?_)
      · have g3 := (nI_leI (a := gs.sz) (b := i) (by omega) (by omega)).mp g3
        refine lv_iconst (v := (-1)) hx hb d_A_work_172 (by decide) ?_
        exact rfI hx hb hr hlk hS (⟨z, gk, AK, TK⟩) (Or.inl ⟨by omega, rfl, by rw [← show i = k by omega]; exact hR0⟩) hP hD (show cC i + 0 ≤ cC k by omega) (show cS i + 0 ≤ cS k by omega) d_A_work_173
      · have g3 := mt (nI_leI (a := gs.sz) (b := i) (by omega) (by omega)).mpr g3
        rcases (show i < k ∨ i = k by omega) with hik | hik
        · refine lv_aload_n hx hb d_A_work_38 rfl (lv_at hl 2 rfl) ?_
          obtain ⟨sp, hei, hsp⟩ := hst i (by omega)
          rw [Nat.zero_add] at hei
          obtain ⟨⟨kd, pq, nu, nn, NL, n9, KD, MN, MT⟩, hsi⟩ : ∃ q : SP1, S.getD i (spO 0 0 0) = q := ⟨_, rfl⟩
          rw [hsi] at hsp
          have hg9 := hgo i (z, gk, AK, TK) hik hR0
          rw [hsi] at hg9
          have hcn := hcC (i + 1) (by omega)
          obtain ⟨pl_z, kn_z, nser_z, awi_z, afr_z, awd_z, nP_z, npc_z, nsc_z, nsO_z, hsize_z, hN_z, hO_z, hT_z⟩ := ak_f haz
          have hsp : isStp dA z.pl sp kd pq nu nn NL n9 KD MN MT := by rw [pl_z]; exact hsp
          have hspc := hsp
          obtain ⟨na, ln, lt, mk, cap, kN, fn, fk, j1, -⟩ := hspc
          refine gFN (v := .ref (ad 23)) hx hb hown hE hK hP 38 rfl rfl layQ 8 (by decide) w1763 rfl d_A_work_39 ?_
          rw [← hlb]
          refine lv_iload hx hb d_A_work_42 (lv_at hl 0 rfl) ?_
          refine jkR (wr := []) (rnV (As := [.int (nI i)]) (rest := []) hx hb hml hown hE hK (hN _ _ hS) hP hD (v_Lget l D dA H.size (VW dA h ad z) lb gs i sp hgs hgn (show i < gs.sz from by omega) hei) (q0 := 0) rfl rfl w1489 w1537 w1490 w1491 w680 rfl rfl ⟨⟨by decide, by decide⟩, rfl⟩ ⟨(Nat.le_of_ble_eq_true rfl), (Nat.le_of_ble_eq_true rfl)⟩ rfl hl.1 rfl (Nat.le_of_ble_eq_true rfl) d_A_work_44 ⟨(show cC i + 0 + 0 ≤ cC k by omega), (show cS i + 0 + 0 ≤ cS k by omega)⟩) hP hD hS hA (fun u5 r4 H locs hp9 hP hD hS => ?_)
          have hP : va_P D vwCl (LiW dA lb gs ++ (VW dA h ad z)) H := hP
          have hD : va_D A (LiW dA lb gs ++ (VW dA h ad z)) := hD
          have f_e_6 := hp9
          have e9 := f_e_6
          subst e9
          obtain ⟨qp7, ep8⟩ := List.getElem?_of_mem (show ((sp, .inr (13, [.int kd, .int (nI pq), .long nu, .ref na, .int (nI nn), .ref ln, .ref lt, .ref mk])) : Nat × va_E) ∈ LiW dA lb gs ++ (VW dA h ad z) from (List.mem_append_right _ (plm j1)))
          refine va_castE hx hb hown (hE.t w1764 rfl) (va_recv hK hP (ci := 13) (q0 := qp7) (q := ("SeriesVault$Step", TE, 8)) rfl ep8) d_A_work_47 ?_
          refine lv_astore hx hb d_A_work_50 hl (by decide) rfl (fun ls hl => ?_)
          have hl : lv_has ls 12 [(11, .ref sp), (10, .int (nI i)), (0, .ref (ad 24)), (1, .ref (ad 22)), (2, .ref (ad 17)), (3, .ref (ad 3)), (4, .ref (ad 1)), (5, .long fr), (7, .long wd), (9, .int (nI nw))] := hl
          rcases hg9 with ⟨h57, ha1, ha2, ha5, ha6, hal⟩ | ⟨h64, ha1, ha2, ha3, ha4, ha5, ha6, hal⟩ | ⟨h65, ha1, ha2, ha3, ha4, ha5, ha6⟩ | ⟨hop, hd1, hd2, ha5, ha6, NL2, NR2, RS2, RU2, wi2, ht2, hu2, hj3⟩
          · refine lv_aload hx hb d_A_work_52 (lv_at hl 0 rfl) ?_
            have ha1 : z.adep ≤ gk.sz := ha1
            have ha2 : gk.eN ≤ 2048 := ha2
            have ha5 : cC i + psC z gk ≤ cC (i + 1) := ha5
            have ha6 : cS i + psS z gk ≤ cS (i + 1) := ha6
            obtain ⟨qp9, ep10⟩ := List.getElem?_of_mem (show ((sp, .inr (13, [.int kd, .int (nI pq), .long nu, .ref na, .int (nI nn), .ref ln, .ref lt, .ref mk])) : Nat × va_E) ∈ LiW dA lb gs ++ (VW dA h ad z) from (List.mem_append_right _ (plm j1)))
            refine gFN (v := .int kd) hx hb hown hE hK hP qp9 ep10 rfl layE 0 (by decide) w1765 rfl d_A_work_54 ?_
            refine tpi (y := 257) (show kd = 257 from h57) ?_
            refine lv_lookup (x := 257) (off := 35) (tgt := 92) hx hb d_A_work_57 (by decide) (by decide) rfl ?_
            refine lv_aload_n hx hb d_A_work_92 rfl (lv_at hl 2 rfl) ?_
            have hPc : va_P D vwCl (VW dA h ad z) H := spP (wr := LiW dA lb gs) hP
            have hDc : va_D A (VW dA h ad z) := spD (wr := LiW dA lb gs) hD
            refine jkR (wr := LiW dA lb gs) (rnVy (As := []) (rest := []) hx hb hml hown hE hK hZ hT hM hS (hN _ _ hS) hPc hDc (v_pushW l D dA H.size e0 mi h ad z la gk AK TK r hkz ha1 ha2) (q0 := 37) rfl rfl w1767 w1766 w1768 w1769 w846 rfl rfl ⟨⟨by decide, by decide⟩, rfl⟩ ⟨(Nat.le_of_ble_eq_true rfl), (Nat.le_of_ble_eq_true rfl)⟩ rfl hl.1 rfl (Nat.le_of_ble_eq_true rfl) d_A_work_93 ⟨(show cC i + 0 + 0 + (psC z gk) ≤ cC k by omega), (show cS i + 0 + 0 + (psS z gk) ≤ cS k by omega)⟩) hP hD hS hA (fun u11 tr H locs hp9 hP hD hS => ?_)
            obtain ⟨w1, gq1, Aq, Tq⟩ := u11
            have hP : va_P D vwCl (LiW dA lb gs ++ (VW dA h ad w1)) H := hP
            have hD : va_D A (LiW dA lb gs ++ (VW dA h ad w1)) := hD
            obtain ⟨f_e_12, f_k_13⟩ := hp9
            have e9 := f_e_12
            have hps1 := f_k_13
            subst e9
            have hpq : psQ dA ad r la (z, gk, AK, TK) (w1, gq1, Aq, Tq) := hps1
            have hk1 : skP dA ad r w1 la gq1 Aq Tq := hps1.2.1
            have hag := hal (w1, gq1, Aq, Tq) hpq
            have hdq : z.adep < gq1.sz := by rcases hps1.2.2 with ⟨d1, d2, -⟩ | ⟨d1, d2, -⟩; (rw [show gq1 = gk from d2]; exact d1); (have d1 : z.adep = gk.sz := d1; have d2 : gq1.sz = gk.sz + 1 := d2; omega)
            obtain ⟨vs9, mv9⟩ := sk_m hk1 hdq
            obtain ⟨pl_w1, kn_w1, nser_w1, awi_w1, afr_w1, awd_w1, nP_w1, npc_w1, nsc_w1, nsO_w1, hsize_w1, hN_w1, hO_w1, hT_w1⟩ := ak_f (ak_t haz (ps_k hpq))
            have j1 : ((sp, .inr (13, [.int kd, .int (nI pq), .long nu, .ref na, .int (nI nn), .ref ln, .ref lt, .ref mk])) : Nat × va_E) ∈ w1.pl := by rw [pl_w1, ← pl_z]; exact j1
            refine lv_aload hx hb d_A_work_96 (lv_at hl 0 rfl) ?_
            obtain ⟨qp14, ep15⟩ := List.getElem?_of_mem (show ((sp, .inr (13, [.int kd, .int (nI pq), .long nu, .ref na, .int (nI nn), .ref ln, .ref lt, .ref mk])) : Nat × va_E) ∈ LiW dA lb gs ++ (VW dA h ad w1) from (List.mem_append_right _ (plm j1)))
            refine gFN (v := .long nu) hx hb hown hE hK hP qp14 ep15 rfl layE 2 (by decide) w1703 rfl d_A_work_98 ?_
            refine lv_iload hx hb d_A_work_101 (lv_at hl 9 rfl) ?_
            have hPc : va_P D vwCl (VW dA h ad w1) H := spP (wr := LiW dA lb gs) hP
            have hDc : va_D A (VW dA h ad w1) := spD (wr := LiW dA lb gs) hD
            obtain ⟨qp16, ep17⟩ := List.getElem?_of_mem (show ((Aq z.adep 0, .inr (8, vs9)) : Nat × va_E) ∈ VW dA h ad w1 from (llm mv9))
            refine jkV (wr := LiW dA lb gs) (rnV (As := [.long nu, .int (nI nw)]) (rest := []) hx hb hml hown hE hK (hN _ _ hS) hPc hDc (v_numW l D dA H.size h ad w1 la gq1 Aq Tq r z.adep nu nw hk1 hdq hag.1 hnw hag.2) (q0 := qp16) ep17 rfl w1771 w1770 w1772 w1773 w807 rfl rfl ⟨⟨by decide, by decide⟩, rfl⟩ ⟨(Nat.le_of_ble_eq_true rfl), (Nat.le_of_ble_eq_true rfl)⟩ rfl hl.1 rfl (Nat.le_of_ble_eq_true rfl) d_A_work_103 ⟨(show cC i + 0 + 0 + (psC z gk) + 0 ≤ cC k by omega), (show cS i + 0 + 0 + (psS z gk) + 0 ≤ cS k by omega)⟩) hP hD hS hA (fun u19 H locs hp9 hP hD hS => ?_)
            obtain ⟨w2, h9u⟩ : ∃ z9, z9 = u19 := ⟨_, rfl⟩
            subst h9u
            have hP : va_P D vwCl (LiW dA lb gs ++ (VW dA h ad w2)) H := hP
            have hD : va_D A (LiW dA lb gs ++ (VW dA h ad w2)) := hD
            obtain ⟨f_k_20, f_s_21⟩ := hp9
            have hR1 : wkR dA ad r la PS SS nw S ((x.wk0 fr wd nw), g, AT, T) (i + 1) (w2, gq1, Aq, va_up Tq z.adep ((Tq z.adep).num nu nw)) := ⟨(z, gk, AK, TK), hR0, by rw [hsi]; exact Or.inl ⟨h57, (w1, gq1, Aq, Tq), hpq, f_k_20, rfl, rfl, rfl, f_s_21⟩⟩
            refine lv_goto hx hb d_A_work_106 (tgt := 166) rfl ?_
            refine lv_iinc (k := 1) (v := nI (i + 1)) hx hb d_A_work_166 hl rfl (iincN (i) 1 1 (by decide)) (by decide) rfl (fun ls hl => ?_)
            have hl : lv_has ls 12 [(10, .int (nI (i + 1))), (11, .ref sp), (0, .ref (ad 24)), (1, .ref (ad 22)), (2, .ref (ad 17)), (3, .ref (ad 3)), (4, .ref (ad 1)), (5, .long fr), (7, .long wd), (9, .int (nI nw))] := hl
            refine lv_goto hx hb d_A_work_169 (tgt := 26) rfl ?_
            refine W.widen (k := cC (i + 1)) (n := cS (i + 1)) (show cC i + 0 + 0 + (psC z gk) + 0 ≤ cC (i + 1) from by omega) (show cS i + 0 + 0 + (psS z gk) + 0 ≤ cS (i + 1) from by omega) ?_
            exact ih26 _ (by omega) (i + 1) w2 gq1 Aq (va_up Tq z.adep ((Tq z.adep).num nu nw)) (by omega) hR1 rfl H _ ls hP hD hS (lv_sub hl [0, 2, 3, 4, 5, 6, 7, 8, 9] rfl)
          · refine lv_aload hx hb d_A_work_52 (lv_at hl 0 rfl) ?_
            have ha1 : z.adep ≤ gk.sz := ha1
            have ha2 : gk.eN ≤ 2048 := ha2
            have ha3 : nn ≤ 6 := ha3
            have ha4 : isFn nu.toInt32 := ha4
            have ha5 : cC i + psC z gk + 3 ≤ cC (i + 1) := ha5
            have ha6 : cS i + psS z gk ≤ cS (i + 1) := ha6
            obtain ⟨qp22, ep23⟩ := List.getElem?_of_mem (show ((sp, .inr (13, [.int kd, .int (nI pq), .long nu, .ref na, .int (nI nn), .ref ln, .ref lt, .ref mk])) : Nat × va_E) ∈ LiW dA lb gs ++ (VW dA h ad z) from (List.mem_append_right _ (plm j1)))
            refine gFN (v := .int kd) hx hb hown hE hK hP qp22 ep23 rfl layE 0 (by decide) w1765 rfl d_A_work_54 ?_
            refine tpi (y := 264) (show kd = 264 from h64) ?_
            refine lv_lookup (x := 264) (off := 52) (tgt := 109) hx hb d_A_work_57 (by decide) (by decide) rfl ?_
            refine lv_aload_n hx hb d_A_work_109 rfl (lv_at hl 2 rfl) ?_
            refine lv_aload hx hb d_A_work_110 (lv_at hl 0 rfl) ?_
            refine lv_aload_n hx hb d_A_work_112 rfl (lv_at hl 2 rfl) ?_
            have hPc : va_P D vwCl (VW dA h ad z) H := spP (wr := LiW dA lb gs) hP
            have hDc : va_D A (VW dA h ad z) := spD (wr := LiW dA lb gs) hD
            refine jkR (wr := LiW dA lb gs) (rnVy (As := []) (rest := [.ref sp, .ref (ad 24)]) hx hb hml hown hE hK hZ hT hM hS (hN _ _ hS) hPc hDc (v_pushW l D dA H.size e0 mi h ad z la gk AK TK r hkz ha1 ha2) (q0 := 37) rfl rfl w1767 w1766 w1768 w1769 w846 rfl rfl ⟨⟨by decide, by decide⟩, rfl⟩ ⟨(Nat.le_of_ble_eq_true rfl), (Nat.le_of_ble_eq_true rfl)⟩ rfl hl.1 rfl (Nat.le_of_ble_eq_true rfl) d_A_work_113 ⟨(show cC i + 0 + 0 + (psC z gk) ≤ cC k by omega), (show cS i + 0 + 0 + (psS z gk) ≤ cS k by omega)⟩) hP hD hS hA (fun u24 tr H locs hp9 hP hD hS => ?_)
            obtain ⟨w1, gq1, Aq, Tq⟩ := u24
            have hP : va_P D vwCl (LiW dA lb gs ++ (VW dA h ad w1)) H := hP
            have hD : va_D A (LiW dA lb gs ++ (VW dA h ad w1)) := hD
            obtain ⟨f_e_25, f_k_26⟩ := hp9
            have e9 := f_e_25
            have hps1 := f_k_26
            subst e9
            have hpq : psQ dA ad r la (z, gk, AK, TK) (w1, gq1, Aq, Tq) := hps1
            have hk1 : skP dA ad r w1 la gq1 Aq Tq := hps1.2.1
            have hag := hal (w1, gq1, Aq, Tq) hpq
            have hdq : z.adep < gq1.sz := by rcases hps1.2.2 with ⟨d1, d2, -⟩ | ⟨d1, d2, -⟩; (rw [show gq1 = gk from d2]; exact d1); (have d1 : z.adep = gk.sz := d1; have d2 : gq1.sz = gk.sz + 1 := d2; omega)
            obtain ⟨vs9, mv9⟩ := sk_m hk1 hdq
            obtain ⟨pl_w1, kn_w1, nser_w1, awi_w1, afr_w1, awd_w1, nP_w1, npc_w1, nsc_w1, nsO_w1, hsize_w1, hN_w1, hO_w1, hT_w1⟩ := ak_f (ak_t haz (ps_k hpq))
            have j1 : ((sp, .inr (13, [.int kd, .int (nI pq), .long nu, .ref na, .int (nI nn), .ref ln, .ref lt, .ref mk])) : Nat × va_E) ∈ w1.pl := by rw [pl_w1, ← pl_z]; exact j1
            refine lv_aload_n hx hb d_A_work_116 rfl (lv_at hl 4 rfl) ?_
            refine lv_aload_n hx hb d_A_work_117 rfl (lv_at hl 5 rfl) ?_
            refine lv_aload hx hb d_A_work_118 (lv_at hl 6 rfl) ?_
            have hsl : cS i + psS z gk + pkS (pkG NL n9 KD MN MT SS w1.kn (TB.s_rc (TB.s_wi (TB.s_nc (Tq z.adep) nn) w1.awi) 0, fun _ => [], w1.aro, w1.ahb) w1.nser).1.rc w1.awi (Tq z.adep).cN w1.bN ≤ cS (i + 1) := hag.2.2.2.2
            have hsl : cS i + psS z gk + pkS (pkG NL n9 KD MN MT SS w1.kn (TB.s_rc (TB.s_wi (TB.s_nc (Tq z.adep) nn) w1.awi) 0, fun _ => [], w1.aro, w1.ahb) w1.nser).1.rc w1.awi (Tq z.adep).cN w1.bN ≤ cS (i + 1) := hag.2.2.2.2
            have hPc : va_P D vwCl (VW dA h ad w1) H := spP (wr := LiW dA lb gs) hP
            have hDc : va_D A (VW dA h ad w1) := spD (wr := LiW dA lb gs) hD
            refine jkV (wr := LiW dA lb gs) (rnV (As := [.ref sp, .ref (Aq z.adep 0), .ref (ad 17), .ref (ad 3), .ref (ad 1)]) (rest := []) hx hb hml hown hE hK (hN _ _ hS) hPc hDc (v_pickW l D dA H.size h ad w1 la gq1 Aq Tq r z.adep sp kd pq nu nn NL n9 KD MN MT SS PS hk1 hdq (by rw [pl_w1, ← pl_z]; exact hsp) ha3 (by rw [kn_w1, nser_w1, pl_w1]; exact hkn) (by rw [awi_w1]; exact hnw) hag.1 hag.2.1 ha4 hag.2.2.1 hag.2.2.2.1 (by rw [nP_w1, npc_w1, pl_w1]; exact hps) (by rw [npc_w1]; exact hpn) (by rw [nsc_w1]; exact hs1) (by rw [nsc_w1, nsO_w1]; exact hs7) (by rw [nser_w1]; exact hns) (by rw [npc_w1, nser_w1, afr_w1, awd_w1, awi_w1]; exact hpo) (by rw [hsize_w1, hO_w1, nser_w1, afr_w1, awd_w1, awi_w1, hT_w1]; exact hho) (by rw [hsize_w1, hN_w1]; exact hhz) (by rw [hN_w1]; exact hhN)) (q0 := 37) rfl rfl w1775 w1774 w1776 w1777 w846 rfl rfl ⟨⟨by decide, by decide⟩, rfl⟩ ⟨(Nat.le_of_ble_eq_true rfl), (Nat.le_of_ble_eq_true rfl)⟩ rfl hl.1 rfl (Nat.le_of_ble_eq_true rfl) d_A_work_120 ⟨(show cC i + 0 + 0 + (psC z gk) + 3 ≤ cC k by omega), (show cS i + 0 + 0 + (psS z gk) + (pkS (pkG NL n9 KD MN MT SS w1.kn (TB.s_rc (TB.s_wi (TB.s_nc (Tq z.adep) nn) w1.awi) 0, fun _ => [], w1.aro, w1.ahb) w1.nser).1.rc w1.awi (Tq z.adep).cN w1.bN) ≤ cS k by omega)⟩) hP hD hS hA (fun u28 H locs hp9 hP hD hS => ?_)
            obtain ⟨w2, tn⟩ := u28
            have hP : va_P D vwCl (LiW dA lb gs ++ (VW dA h ad w2)) H := hP
            have hD : va_D A (LiW dA lb gs ++ (VW dA h ad w2)) := hD
            have f_k_29 := hp9
            obtain ⟨W9, v9, pf1, pf2, pf3, pf4⟩ := f_k_29
            have hR1 : wkR dA ad r la PS SS nw S ((x.wk0 fr wd nw), g, AT, T) (i + 1) (w2, gq1, Aq, va_up Tq z.adep v9.1) := ⟨(z, gk, AK, TK), hR0, by rw [hsi]; exact Or.inr (Or.inl ⟨h64, (w1, gq1, Aq, Tq), W9, v9, hpq, pf1, pf3, rfl, rfl, rfl, by rw [← pf2]; exact pf4⟩)⟩
            refine lv_goto hx hb d_A_work_123 (tgt := 166) rfl ?_
            refine lv_iinc (k := 1) (v := nI (i + 1)) hx hb d_A_work_166 hl rfl (iincN (i) 1 1 (by decide)) (by decide) rfl (fun ls hl => ?_)
            have hl : lv_has ls 12 [(10, .int (nI (i + 1))), (11, .ref sp), (0, .ref (ad 24)), (1, .ref (ad 22)), (2, .ref (ad 17)), (3, .ref (ad 3)), (4, .ref (ad 1)), (5, .long fr), (7, .long wd), (9, .int (nI nw))] := hl
            refine lv_goto hx hb d_A_work_169 (tgt := 26) rfl ?_
            refine W.widen (k := cC (i + 1)) (n := cS (i + 1)) (show cC i + 0 + 0 + (psC z gk) + 3 ≤ cC (i + 1) from by omega) (show cS i + 0 + 0 + (psS z gk) + (pkS (pkG NL n9 KD MN MT SS w1.kn (TB.s_rc (TB.s_wi (TB.s_nc (Tq z.adep) nn) w1.awi) 0, fun _ => [], w1.aro, w1.ahb) w1.nser).1.rc w1.awi (Tq z.adep).cN w1.bN) ≤ cS (i + 1) from by omega) ?_
            exact ih26 _ (by omega) (i + 1) w2 gq1 Aq (va_up Tq z.adep v9.1) (by omega) hR1 rfl H _ ls hP hD hS (lv_sub hl [0, 2, 3, 4, 5, 6, 7, 8, 9] rfl)
          · refine lv_aload hx hb d_A_work_52 (lv_at hl 0 rfl) ?_
            have ha1 : 1 ≤ z.adep := ha1
            have ha2 : z.adep ≤ gk.sz := ha2
            have ha3 : (TK (z.adep - 1)).cN ≤ 65536 := ha3
            have ha4 : (TK (z.adep - 1)).rc * (TK (z.adep - 1)).wi ≤ (TK (z.adep - 1)).cN := ha4
            have ha5 : cC i ≤ cC (i + 1) := ha5
            have ha6 : cS i ≤ cS (i + 1) := ha6
            have hla9 : la 0 = ad 25 := hkz.2.1
            obtain ⟨vl9, ml9⟩ := sk_l hkz
            obtain ⟨vs9, mv9⟩ := sk_m hkz (show z.adep - 1 < gk.sz by omega)
            obtain ⟨qp30, ep31⟩ := List.getElem?_of_mem (show ((sp, .inr (13, [.int kd, .int (nI pq), .long nu, .ref na, .int (nI nn), .ref ln, .ref lt, .ref mk])) : Nat × va_E) ∈ LiW dA lb gs ++ (VW dA h ad z) from (List.mem_append_right _ (plm j1)))
            refine gFN (v := .int kd) hx hb hown hE hK hP qp30 ep31 rfl layE 0 (by decide) w1765 rfl d_A_work_54 ?_
            refine tpi (y := 265) (show kd = 265 from h65) ?_
            refine lv_lookup (x := 265) (off := 69) (tgt := 126) hx hb d_A_work_57 (by decide) (by decide) rfl ?_
            refine lv_aload_n hx hb d_A_work_126 rfl (lv_at hl 2 rfl) ?_
            refine gF (v := .ref (ad 25)) hx hb hown hE hK hP 39 rfl rfl layA 0 (by decide) w799 rfl d_A_work_127 ?_
            rw [← hla9]
            refine lv_aload_n hx hb d_A_work_130 rfl (lv_at hl 2 rfl) ?_
            refine gF (v := .int (nI z.adep)) hx hb hown hE hK hP 39 rfl rfl layA 1 (by decide) w1538 rfl d_A_work_131 ?_
            refine lv_iconst (v := 1) hx hb d_A_work_134 (by decide) ?_
            refine lv_isub hx hb d_A_work_135 (tpi (y := nI (z.adep - 1)) (pk_sub (a := z.adep) (b := 1) (by omega)) ?_)
            have hPc : va_P D vwCl (VW dA h ad z) H := spP (wr := LiW dA lb gs) hP
            have hDc : va_D A (VW dA h ad z) := spD (wr := LiW dA lb gs) hD
            obtain ⟨qp32, ep33⟩ := List.getElem?_of_mem (show ((la 0, .inr (6, vl9)) : Nat × va_E) ∈ VW dA h ad z from (llm ml9))
            refine jkR (wr := LiW dA lb gs) (rnV (As := [.int (nI (z.adep - 1))]) (rest := []) hx hb hml hown hE hK (hN _ _ hS) hPc hDc (v_getW l D dA H.size h ad z la gk AK TK r (z.adep - 1) hkz (show z.adep - 1 < gk.sz by omega)) (q0 := qp32) ep33 rfl w1489 w1537 w1490 w1491 w680 rfl rfl ⟨⟨by decide, by decide⟩, rfl⟩ ⟨(Nat.le_of_ble_eq_true rfl), (Nat.le_of_ble_eq_true rfl)⟩ rfl hl.1 rfl (Nat.le_of_ble_eq_true rfl) d_A_work_136 ⟨(show cC i + 0 + 0 + 0 ≤ cC k by omega), (show cS i + 0 + 0 + 0 ≤ cS k by omega)⟩) hP hD hS hA (fun u35 r34 H locs hp9 hP hD hS => ?_)
            have hP : va_P D vwCl (LiW dA lb gs ++ (VW dA h ad z)) H := hP
            have hD : va_D A (LiW dA lb gs ++ (VW dA h ad z)) := hD
            have f_e_36 := hp9
            have e9 := f_e_36
            subst e9
            obtain ⟨qp37, ep38⟩ := List.getElem?_of_mem (show ((AK (z.adep - 1) 0, .inr (8, vs9)) : Nat × va_E) ∈ LiW dA lb gs ++ (VW dA h ad z) from (List.mem_append_right _ (llm mv9)))
            refine va_castE hx hb hown (hE.t w805 rfl) (va_recv hK hP (ci := 8) (q0 := qp37) (q := ("SeriesVault$Table", TT, 7)) rfl ep38) d_A_work_139 ?_
            have hPc : va_P D vwCl (VW dA h ad z) H := spP (wr := LiW dA lb gs) hP
            have hDc : va_D A (VW dA h ad z) := spD (wr := LiW dA lb gs) hD
            obtain ⟨qp39, ep40⟩ := List.getElem?_of_mem (show ((AK (z.adep - 1) 0, .inr (8, vs9)) : Nat × va_E) ∈ VW dA h ad z from (llm mv9))
            refine jkV (wr := LiW dA lb gs) (rnV (As := []) (rest := []) hx hb hml hown hE hK (hN _ _ hS) hPc hDc (v_turnW l D dA H.size h ad z la gk AK TK r (z.adep - 1) hkz (show z.adep - 1 < gk.sz by omega) ha3 ha4) (q0 := qp39) ep40 rfl w1779 w1778 w1780 w1781 w807 rfl rfl ⟨⟨by decide, by decide⟩, rfl⟩ ⟨(Nat.le_of_ble_eq_true rfl), (Nat.le_of_ble_eq_true rfl)⟩ rfl hl.1 rfl (Nat.le_of_ble_eq_true rfl) d_A_work_142 ⟨(show cC i + 0 + 0 + 0 + 0 ≤ cC k by omega), (show cS i + 0 + 0 + 0 + 0 ≤ cS k by omega)⟩) hP hD hS hA (fun u42 H locs hp9 hP hD hS => ?_)
            obtain ⟨w2, h9u⟩ : ∃ z9, z9 = u42 := ⟨_, rfl⟩
            subst h9u
            have hP : va_P D vwCl (LiW dA lb gs ++ (VW dA h ad w2)) H := hP
            have hD : va_D A (LiW dA lb gs ++ (VW dA h ad w2)) := hD
            obtain ⟨f_k_43, f_s_44⟩ := hp9
            have hR1 : wkR dA ad r la PS SS nw S ((x.wk0 fr wd nw), g, AT, T) (i + 1) (w2, gk, AK, va_up TK (z.adep - 1) (TB.s_ce (TK (z.adep - 1)) (tnG (TK (z.adep - 1)).ce ((TK (z.adep - 1)).rc * (TK (z.adep - 1)).wi)))) := ⟨(z, gk, AK, TK), hR0, by rw [hsi]; exact Or.inr (Or.inr (Or.inl ⟨h65, f_k_43, rfl, rfl, rfl, f_s_44⟩))⟩
            refine lv_goto hx hb d_A_work_145 (tgt := 166) rfl ?_
            refine lv_iinc (k := 1) (v := nI (i + 1)) hx hb d_A_work_166 hl rfl (iincN (i) 1 1 (by decide)) (by decide) rfl (fun ls hl => ?_)
            have hl : lv_has ls 12 [(10, .int (nI (i + 1))), (11, .ref sp), (0, .ref (ad 24)), (1, .ref (ad 22)), (2, .ref (ad 17)), (3, .ref (ad 3)), (4, .ref (ad 1)), (5, .long fr), (7, .long wd), (9, .int (nI nw))] := hl
            refine lv_goto hx hb d_A_work_169 (tgt := 26) rfl ?_
            refine W.widen (k := cC (i + 1)) (n := cS (i + 1)) (show cC i + 0 + 0 + 0 + 0 ≤ cC (i + 1) from by omega) (show cS i + 0 + 0 + 0 + 0 ≤ cS (i + 1) from by omega) ?_
            exact ih26 _ (by omega) (i + 1) w2 gk AK (va_up TK (z.adep - 1) (TB.s_ce (TK (z.adep - 1)) (tnG (TK (z.adep - 1)).ce ((TK (z.adep - 1)).rc * (TK (z.adep - 1)).wi)))) (by omega) hR1 rfl H _ ls hP hD hS (lv_sub hl [0, 2, 3, 4, 5, 6, 7, 8, 9] rfl)
          · refine lv_aload hx hb d_A_work_52 (lv_at hl 0 rfl) ?_
            have hop : isOp kd := hop
            have hd1 : 2 ≤ z.adep := hd1
            have hd2 : z.adep ≤ gk.sz := hd2
            have hj3 : ¬ jnC NL2 NR2 (TK (z.adep - 2)) (TK (z.adep - 1)) = 3 := hj3
            obtain ⟨qp45, ep46⟩ := List.getElem?_of_mem (show ((sp, .inr (13, [.int kd, .int (nI pq), .long nu, .ref na, .int (nI nn), .ref ln, .ref lt, .ref mk])) : Nat × va_E) ∈ LiW dA lb gs ++ (VW dA h ad z) from (List.mem_append_right _ (plm j1)))
            refine gFN (v := .int kd) hx hb hown hE hK hP qp45 ep46 rfl layE 0 (by decide) w1765 rfl d_A_work_54 ?_
            rcases (⟨hop, trivial⟩ : isOp kd ∧ True) with ⟨hop, -⟩
            · refine lv_lookup (x := kd) (off := 91) (tgt := 148) hx hb d_A_work_57 (by decide) (lswJ hop) rfl ?_
              refine lv_aload_n hx hb d_A_work_148 rfl (lv_at hl 2 rfl) ?_
              refine lv_aload hx hb d_A_work_149 (lv_at hl 0 rfl) ?_
              obtain ⟨qp47, ep48⟩ := List.getElem?_of_mem (show ((sp, .inr (13, [.int kd, .int (nI pq), .long nu, .ref na, .int (nI nn), .ref ln, .ref lt, .ref mk])) : Nat × va_E) ∈ LiW dA lb gs ++ (VW dA h ad z) from (List.mem_append_right _ (plm j1)))
              refine gFN (v := .int kd) hx hb hown hE hK hP qp47 ep48 rfl layE 0 (by decide) w1765 rfl d_A_work_151 ?_
              have hPc : va_P D vwCl (VW dA h ad z) H := spP (wr := LiW dA lb gs) hP
              have hDc : va_D A (VW dA h ad z) := spD (wr := LiW dA lb gs) hD
              refine jkI (wr := LiW dA lb gs) (rnV (As := [.int kd]) (rest := []) hx hb hml hown hE hK (hN _ _ hS) hPc hDc (v_joinW l D dA H.size h ad z la gk AK TK r kd NL2 NR2 RS2 RU2 wi2 hkz hd1 hd2 hop ht2 hu2) (q0 := 37) rfl rfl w1783 w1782 w1784 w1785 w846 rfl rfl ⟨⟨by decide, by decide⟩, rfl⟩ ⟨(Nat.le_of_ble_eq_true rfl), (Nat.le_of_ble_eq_true rfl)⟩ rfl hl.1 rfl (Nat.le_of_ble_eq_true rfl) d_A_work_154 ⟨(show cC i + 0 + 0 + 0 ≤ cC k by omega), (show cS i + 0 + 0 + 0 ≤ cS k by omega)⟩) hP hD hS hA (fun r49 u50 H locs hp9 hP hD hS => ?_)
              obtain ⟨w1, gq1, Aq, Tq⟩ := u50
              have hP : va_P D vwCl (LiW dA lb gs ++ (VW dA h ad w1)) H := hP
              have hD : va_D A (LiW dA lb gs ++ (VW dA h ad w1)) := hD
              obtain ⟨f_v_51, f_k_52⟩ := hp9
              have hv9 := f_v_51
              rw [if_neg hj3] at hv9
              have hR1 : wkR dA ad r la PS SS nw S ((x.wk0 fr wd nw), g, AT, T) (i + 1) (w1, gq1, Aq, Tq) := ⟨(z, gk, AK, TK), hR0, by rw [hsi]; exact Or.inr (Or.inr (Or.inr ⟨hop, NL2, NR2, RS2, RU2, wi2, ht2, hu2, hj3, f_k_52⟩))⟩
              subst hv9
              refine lv_if_ne hx hb d_A_work_157 (tgt := 166) rfl (fun _ => ?_) (fun h9 => absurd h9 (by decide))
              refine lv_iinc (k := 1) (v := nI (i + 1)) hx hb d_A_work_166 hl rfl (iincN (i) 1 1 (by decide)) (by decide) rfl (fun ls hl => ?_)
              have hl : lv_has ls 12 [(10, .int (nI (i + 1))), (11, .ref sp), (0, .ref (ad 24)), (1, .ref (ad 22)), (2, .ref (ad 17)), (3, .ref (ad 3)), (4, .ref (ad 1)), (5, .long fr), (7, .long wd), (9, .int (nI nw))] := hl
              refine lv_goto hx hb d_A_work_169 (tgt := 26) rfl ?_
              refine W.widen (k := cC (i + 1)) (n := cS (i + 1)) (show cC i + 0 + 0 + 0 ≤ cC (i + 1) from by omega) (show cS i + 0 + 0 + 0 ≤ cS (i + 1) from by omega) ?_
              exact ih26 _ (by omega) (i + 1) w1 gq1 Aq Tq (by omega) hR1 rfl H _ ls hP hD hS (lv_sub hl [0, 2, 3, 4, 5, 6, 7, 8, 9] rfl)
        · refine lv_aload_n hx hb d_A_work_38 rfl (lv_at hl 2 rfl) ?_
          obtain ⟨sp, hei, hsp⟩ := hst i (by omega)
          rw [Nat.zero_add] at hei
          obtain ⟨⟨kd, pq, nu, nn, NL, n9, KD, MN, MT⟩, hsi⟩ : ∃ q : SP1, S.getD i (spO 0 0 0) = q := ⟨_, rfl⟩
          rw [hsi] at hsp
          have hx9 := hxx (z, gk, AK, TK) (by omega) (by rw [← hik]; exact hR0)
          rw [← hik, hsi] at hx9
          obtain ⟨hop, hd1, hd2, NL2, NR2, RS2, RU2, wi2, ht2, hu2, hj3⟩ := hx9
          have hop : isOp kd := hop
          have hd1 : 2 ≤ z.adep := hd1
          have hd2 : z.adep ≤ gk.sz := hd2
          have hj3 : jnC NL2 NR2 (TK (z.adep - 2)) (TK (z.adep - 1)) = 3 := hj3
          obtain ⟨pl_z, kn_z, nser_z, awi_z, afr_z, awd_z, nP_z, npc_z, nsc_z, nsO_z, hsize_z, hN_z, hO_z, hT_z⟩ := ak_f haz
          have hsp : isStp dA z.pl sp kd pq nu nn NL n9 KD MN MT := by rw [pl_z]; exact hsp
          have hspc := hsp
          obtain ⟨na, ln, lt, mk, cap, kN, fn, fk, j1, -⟩ := hspc
          refine gFN (v := .ref (ad 23)) hx hb hown hE hK hP 38 rfl rfl layQ 8 (by decide) w1763 rfl d_A_work_39 ?_
          rw [← hlb]
          refine lv_iload hx hb d_A_work_42 (lv_at hl 0 rfl) ?_
          refine jkR (wr := []) (rnV (As := [.int (nI i)]) (rest := []) hx hb hml hown hE hK (hN _ _ hS) hP hD (v_Lget l D dA H.size (VW dA h ad z) lb gs i sp hgs hgn (show i < gs.sz from by omega) hei) (q0 := 0) rfl rfl w1489 w1537 w1490 w1491 w680 rfl rfl ⟨⟨by decide, by decide⟩, rfl⟩ ⟨(Nat.le_of_ble_eq_true rfl), (Nat.le_of_ble_eq_true rfl)⟩ rfl hl.1 rfl (Nat.le_of_ble_eq_true rfl) d_A_work_44 ⟨(show cC i + 0 + 0 ≤ cC k by omega), (show cS i + 0 + 0 ≤ cS k by omega)⟩) hP hD hS hA (fun u54 r53 H locs hp9 hP hD hS => ?_)
          have hP : va_P D vwCl (LiW dA lb gs ++ (VW dA h ad z)) H := hP
          have hD : va_D A (LiW dA lb gs ++ (VW dA h ad z)) := hD
          have f_e_55 := hp9
          have e9 := f_e_55
          subst e9
          obtain ⟨qp56, ep57⟩ := List.getElem?_of_mem (show ((sp, .inr (13, [.int kd, .int (nI pq), .long nu, .ref na, .int (nI nn), .ref ln, .ref lt, .ref mk])) : Nat × va_E) ∈ LiW dA lb gs ++ (VW dA h ad z) from (List.mem_append_right _ (plm j1)))
          refine va_castE hx hb hown (hE.t w1764 rfl) (va_recv hK hP (ci := 13) (q0 := qp56) (q := ("SeriesVault$Step", TE, 8)) rfl ep57) d_A_work_47 ?_
          refine lv_astore hx hb d_A_work_50 hl (by decide) rfl (fun ls hl => ?_)
          have hl : lv_has ls 12 [(11, .ref sp), (10, .int (nI i)), (0, .ref (ad 24)), (1, .ref (ad 22)), (2, .ref (ad 17)), (3, .ref (ad 3)), (4, .ref (ad 1)), (5, .long fr), (7, .long wd), (9, .int (nI nw))] := hl
          refine lv_aload hx hb d_A_work_52 (lv_at hl 0 rfl) ?_
          obtain ⟨qp58, ep59⟩ := List.getElem?_of_mem (show ((sp, .inr (13, [.int kd, .int (nI pq), .long nu, .ref na, .int (nI nn), .ref ln, .ref lt, .ref mk])) : Nat × va_E) ∈ LiW dA lb gs ++ (VW dA h ad z) from (List.mem_append_right _ (plm j1)))
          refine gFN (v := .int kd) hx hb hown hE hK hP qp58 ep59 rfl layE 0 (by decide) w1765 rfl d_A_work_54 ?_
          rcases (⟨hop, trivial⟩ : isOp kd ∧ True) with ⟨hop, -⟩
          · refine lv_lookup (x := kd) (off := 91) (tgt := 148) hx hb d_A_work_57 (by decide) (lswJ hop) rfl ?_
            refine lv_aload_n hx hb d_A_work_148 rfl (lv_at hl 2 rfl) ?_
            refine lv_aload hx hb d_A_work_149 (lv_at hl 0 rfl) ?_
            obtain ⟨qp60, ep61⟩ := List.getElem?_of_mem (show ((sp, .inr (13, [.int kd, .int (nI pq), .long nu, .ref na, .int (nI nn), .ref ln, .ref lt, .ref mk])) : Nat × va_E) ∈ LiW dA lb gs ++ (VW dA h ad z) from (List.mem_append_right _ (plm j1)))
            refine gFN (v := .int kd) hx hb hown hE hK hP qp60 ep61 rfl layE 0 (by decide) w1765 rfl d_A_work_151 ?_
            have hPc : va_P D vwCl (VW dA h ad z) H := spP (wr := LiW dA lb gs) hP
            have hDc : va_D A (VW dA h ad z) := spD (wr := LiW dA lb gs) hD
            refine jkI (wr := LiW dA lb gs) (rnV (As := [.int kd]) (rest := []) hx hb hml hown hE hK (hN _ _ hS) hPc hDc (v_joinW l D dA H.size h ad z la gk AK TK r kd NL2 NR2 RS2 RU2 wi2 hkz hd1 hd2 hop ht2 hu2) (q0 := 37) rfl rfl w1783 w1782 w1784 w1785 w846 rfl rfl ⟨⟨by decide, by decide⟩, rfl⟩ ⟨(Nat.le_of_ble_eq_true rfl), (Nat.le_of_ble_eq_true rfl)⟩ rfl hl.1 rfl (Nat.le_of_ble_eq_true rfl) d_A_work_154 ⟨(show cC i + 0 + 0 + 0 ≤ cC k by omega), (show cS i + 0 + 0 + 0 ≤ cS k by omega)⟩) hP hD hS hA (fun r62 u63 H locs hp9 hP hD hS => ?_)
            obtain ⟨w1, gq1, Aq, Tq⟩ := u63
            have hP : va_P D vwCl (LiW dA lb gs ++ (VW dA h ad w1)) H := hP
            have hD : va_D A (LiW dA lb gs ++ (VW dA h ad w1)) := hD
            obtain ⟨f_v_64, f_k_65⟩ := hp9
            have hv9 := f_v_64
            rw [if_pos hj3] at hv9
            have hjz := f_k_65
            have j1 : ((sp, .inr (13, [.int kd, .int (nI pq), .long nu, .ref na, .int (nI nn), .ref ln, .ref lt, .ref mk])) : Nat × va_E) ∈ w1.pl := by rw [show w1.pl = z.pl from (ak_f (jn_k (a := (z, gk, AK, TK)) (b := (w1, gq1, Aq, Tq)) hjz)).1]; exact j1
            subst hv9
            refine lv_if_ne hx hb d_A_work_157 (tgt := 166) rfl (fun h9 => absurd (by decide) h9) (fun _ => ?_)
            refine lv_aload hx hb d_A_work_160 (lv_at hl 0 rfl) ?_
            obtain ⟨qp66, ep67⟩ := List.getElem?_of_mem (show ((sp, .inr (13, [.int kd, .int (nI pq), .long nu, .ref na, .int (nI nn), .ref ln, .ref lt, .ref mk])) : Nat × va_E) ∈ LiW dA lb gs ++ (VW dA h ad w1) from (List.mem_append_right _ (plm j1)))
            refine gFN (v := .int (nI pq)) hx hb hown hE hK hP qp66 ep67 rfl layE 1 (by decide) w1786 rfl d_A_work_162 ?_
            exact rfI hx hb hr hlk hS (⟨w1, gq1, Aq, Tq⟩) (Or.inr ⟨by omega, by rw [← hik, hsi], (z, gk, AK, TK), NL2, NR2, RS2, RU2, wi2, by rw [← hik]; exact hR0, ht2, hu2, hj3, by rw [← hik, hsi]; exact hjz⟩) hP hD (show cC i + 0 + 0 + 0 ≤ cC k by omega) (show cS i + 0 + 0 + 0 ≤ cS k by omega) d_A_work_165
  refine W.widen (k := cC 0) (n := cS 0) (show 0 ≤ cC 0 from by omega) (show 0 ≤ cS 0 from by omega) ?_
  exact L26 _ 0 (VS.s_awi (VS.s_awd (VS.s_afr (VS.s_adep x 0) fr) wd) nw) g AT T (Nat.zero_le _) rfl rfl H _ ls hP hD hS (lv_sub hl [0, 1, 2, 3, 4, 5, 6, 7, 8] rfl)
