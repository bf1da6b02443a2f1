/-- x with the token, the fault and the tables' names of y -/
def MS.nkS (x y : MS) : MS := MS.s_nameLengths (MS.s_nameFroms (MS.s_tableNames (x.tkS y) y.tableNames) y.nameFroms) y.nameLengths
def MS.nk (x y : MS) : Prop := y = x.nkS y
theorem nk_of {x y : MS} (h : x.tk y) : x.nk y := by
  have e1 : y.tableNames = x.tableNames := tk_f h MS.tableNames rfl
  have e2 : y.nameFroms = x.nameFroms := tk_f h MS.nameFroms rfl
  have e3 : y.nameLengths = x.nameLengths := tk_f h MS.nameLengths rfl
  show y = MS.s_nameLengths (MS.s_nameFroms (MS.s_tableNames (x.tkS y) y.tableNames) y.nameFroms) y.nameLengths
  rw [e1, e2, e3]
  exact h
theorem nk_tr {x y z : MS} (h1 : x.nk y) (h2 : y.nk z) : x.nk z := h2.trans ((congrArg (fun w => MS.nkS w z) h1).trans rfl)
theorem nk_ad (x : MS) (t : Nat) : x.nk (x.adS t) := rfl
theorem nk_f {x y : MS} {α : Type} (h : x.nk y) (f : MS → α) (hf : f (x.nkS y) = f x) : f y = f x := (congrArg f h).trans hf
/-- the names of the other tables are the same -/
def MS.nmO (x y : MS) (t : Nat) : Prop := (∀ q : Nat, ¬ q = t → y.tableNames q = x.tableNames q) ∧ ∀ q : Nat, q < 6 * t ∨ 6 * t + 6 ≤ q → y.nameFroms q = x.nameFroms q ∧ y.nameLengths q = x.nameLengths q
theorem nmO_tr {x y z : MS} {t : Nat} (h1 : x.nmO y t) (h2 : y.nmO z t) : x.nmO z t := ⟨fun q hq => (h2.1 q hq).trans (h1.1 q hq), fun q hq => ⟨(h2.2 q hq).1.trans (h1.2 q hq).1, (h2.2 q hq).2.trans (h1.2 q hq).2⟩⟩
theorem nmO_tk {x y : MS} {t : Nat} (h : x.tk y) : x.nmO y t := by
  have e1 : y.tableNames = x.tableNames := tk_f h MS.tableNames rfl
  have e2 : y.nameFroms = x.nameFroms := tk_f h MS.nameFroms rfl
  have e3 : y.nameLengths = x.nameLengths := tk_f h MS.nameLengths rfl
  unfold MS.nmO
  rw [e1, e2, e3]
  exact ⟨fun _ _ => rfl, fun _ _ => ⟨rfl, rfl⟩⟩
theorem nmO_ad {x : MS} {t : Nat} (h : x.tableNames t < 6) : x.nmO (x.adS t) t := by
  refine ⟨fun q hq => if_neg hq, fun q hq => ⟨if_neg ?_, if_neg ?_⟩⟩ <;> omega
def MS.byR (x v : MS) (t : Nat) : Prop := v.lx ∧ v.isT ∧ v.nmT t ∧ v.tableNames t ≤ 6 ∧ x.nk v ∧ x.nmO v t
theorem byL_in {t : Nat} : ∀ {w : Nat} {y v : MS}, y.lx → y.nmT t → y.tableNames t + w = 7 → MS.byL t w y = (true, v) → y.byR v t
  | 0, y, v, _, _, _, h => by cases h
  | w + 1, y, v, hl, hn, hw, h => by
    have hp : 0 < w + 1 := Nat.succ_pos w
    by_cases k2 : y.kind = 2
    · cases c1 : y.byT t with
      | true => rw [by_4 hp k2 c1] at h; cases h
      | false =>
        have h6 := by_6 c1
        cases c2 : (y.adS t).nx.1 with
        | false => rw [by_n hp k2 c1 c2] at h; cases h
        | true =>
          obtain ⟨z, ez⟩ : ∃ z, z = (y.adS t).nx.2 := ⟨_, rfl⟩
          have lz : z.lx := by rw [ez]; exact (nx_in (lx_ad hl) c2).1
          have nz : z.nmT t := by rw [ez]; exact nmT_tk (tk_nx _) (nmT_ad hn hl.2.1 hl.2.2.1)
          have cz : z.tableNames t = y.tableNames t + 1 := by rw [ez]; exact (tk_tn (tk_nx _) _).trans (tn_ad _ _)
          have kz : y.nk z := by rw [ez]; exact nk_tr (nk_ad y t) (nk_of (tk_nx _))
          have oz : y.nmO z t := by rw [ez]; exact nmO_tr (nmO_ad (by omega)) (nmO_tk (tk_nx _))
          by_cases c3 : z.kind = 44
          · cases c4 : z.nx.1 with
            | false => rw [by_mn hp k2 c1 c2 ez c3 c4] at h; cases h
            | true =>
              obtain ⟨u, eu⟩ : ∃ u, u = z.nx.2 := ⟨_, rfl⟩
              have lu : u.lx := by rw [eu]; exact (nx_in lz c4).1
              have nu : u.nmT t := by rw [eu]; exact nmT_tk (tk_nx _) nz
              have cu : u.tableNames t = z.tableNames t := by rw [eu]; exact tk_tn (tk_nx _) _
              rw [by_m hp k2 c1 c2 ez c3 c4 eu] at h
              obtain ⟨r1, r2, r3, r4, r5, r6⟩ := byL_in (w := w) lu nu (by omega) h
              refine ⟨r1, r2, r3, r4, nk_tr kz (nk_tr ?_ r5), nmO_tr oz (nmO_tr ?_ r6)⟩
              · rw [eu]; exact nk_of (tk_nx _)
              · rw [eu]; exact nmO_tk (tk_nx _)
          · rw [by_e hp k2 c1 c2 ez c3] at h
            have g : (z.ndF 41).1 = true := by rw [h]
            have ev : v = (z.ndF 41).2 := by rw [h]
            have kk := (nd_in lz g).2.2.2
            have n1 : z.ndF 41 = z.nx := if_pos kk
            refine ⟨by rw [ev]; exact (nd_in lz g).1, by rw [ev, n1]; exact (nx_isT (by rw [← n1]; exact g)).1, by rw [ev]; exact nmT_tk (tk_nd _ _) nz, ?_, nk_tr kz (by rw [ev]; exact nk_of (tk_nd _ _)), nmO_tr oz (by rw [ev]; exact nmO_tk (tk_nd _ _))⟩
            rw [ev, tk_tn (tk_nd _ _)]
            omega
    · rw [by_k hp k2] at h; cases h
theorem by_in {x v : MS} (hl : x.lx) (h0 : x.tableNames x.pile = 0) (h : x.byF = (true, v)) : x.byR v x.pile := by
  cases c1 : x.nx.1 with
  | false => rw [byF_0 c1] at h; cases h
  | true =>
    obtain ⟨y, ey⟩ : ∃ y, y = x.nx.2 := ⟨_, rfl⟩
    have ly : y.lx := by rw [ey]; exact (nx_in hl c1).1
    cases c2 : (y.ndF 40).1 with
    | false => rw [byF_1 c1 ey c2] at h; cases h
    | true =>
      obtain ⟨z, ez⟩ : ∃ z, z = (y.ndF 40).2 := ⟨_, rfl⟩
      have lz : z.lx := by rw [ez]; exact (nd_in ly c2).1
      have T : x.tk z := by rw [ez, ey]; exact tk_tr (tk_nx x) (tk_nd _ 40)
      have n0 : z.tableNames x.pile = 0 := (tk_tn T _).trans h0
      rw [byF_2 c1 ey c2 ez] at h
      obtain ⟨r1, r2, r3, r4, r5, r6⟩ := byL_in lz (fun k hk => absurd hk (by rw [n0]; exact Nat.not_lt_zero k)) (by rw [n0]) h
      exact ⟨r1, r2, r3, r4, nk_tr (nk_of T) r5, nmO_tr (nmO_tk T) r6⟩
theorem rkc_nk {x y : MS} (h : x.nk y) (hx : x.rkc) : y.rkc := by
  have h1 : (x.nkS y).rkc := hx
  rw [← show y = x.nkS y from h] at h1
  exact h1
theorem nOK_of {x : MS} {t : Nat} (ht : t < 20) (h : x.nmT t) (h6 : x.tableNames t ≤ 6) (hl : x.length ≤ 65536) : x.nOK t := ⟨ht, h6, fun k hk => Nat.le_trans (h k hk) hl⟩
theorem ml_c1 {w wh p : Nat} {y u : MS} (h : MS.mlF w y = MS.mlF (w - 1) u) : MS.cl3 (MS.mlF w y) wh p = (if true = true then MS.cl3 (MS.mlF (w - 1) u) wh p else u.cl4 wh p) := by rw [h, if_pos rfl]
theorem ml_c2 {w wh p : Nat} {y z : MS} (h : MS.mlF w y = (true, z)) : MS.cl3 (MS.mlF w y) wh p = (if false = true then MS.cl3 (MS.mlF (w - 1) z) wh p else z.cl4 wh p) := by
  rw [h, if_neg (by decide)]
  rfl
theorem d_M_called_0 : decode prog_14_method_85_code 0 = .ok (.aload_n 0, 1) := by decide +kernel
theorem d_M_called_1 : decode prog_14_method_85_code 1 = .ok (.getfield 88, 3) := by decide +kernel
theorem d_M_called_4 : decode prog_14_method_85_code 4 = .ok (.aload_n 0, 1) := by decide +kernel
theorem d_M_called_5 : decode prog_14_method_85_code 5 = .ok (.getfield 400, 3) := by decide +kernel
theorem d_M_called_8 : decode prog_14_method_85_code 8 = .ok (.iconst 0, 1) := by decide +kernel
theorem d_M_called_9 : decode prog_14_method_85_code 9 = .ok (.iastore, 1) := by decide +kernel
theorem d_M_called_10 : decode prog_14_method_85_code 10 = .ok (.aload_n 0, 1) := by decide +kernel
theorem d_M_called_11 : decode prog_14_method_85_code 11 = .ok (.invokevirtual 373, 3) := by decide +kernel
theorem d_M_called_14 : decode prog_14_method_85_code 14 = .ok (.ifCond .eq 35, 3) := by decide +kernel
theorem d_M_called_49 : decode prog_14_method_85_code 49 = .ok (.iconst 0, 1) := by decide +kernel
theorem d_M_called_50 : decode prog_14_method_85_code 50 = .ok (.ireturn, 1) := by decide +kernel
theorem d_M_called_40 : decode prog_14_method_85_code 40 = .ok (.aload_n 0, 1) := by decide +kernel
theorem d_M_called_51 : decode prog_14_method_85_code 51 = .ok (.aload_n 0, 1) := by decide +kernel
theorem d_M_called_52 : decode prog_14_method_85_code 52 = .ok (.getfield 342, 3) := by decide +kernel
theorem d_M_called_55 : decode prog_14_method_85_code 55 = .ok (.istore_n 2, 1) := by decide +kernel
theorem d_M_called_56 : decode prog_14_method_85_code 56 = .ok (.aload_n 0, 1) := by decide +kernel
theorem d_M_called_57 : decode prog_14_method_85_code 57 = .ok (.bipush 123, 2) := by decide +kernel
theorem d_M_called_59 : decode prog_14_method_85_code 59 = .ok (.invokevirtual 457, 3) := by decide +kernel
theorem d_M_called_62 : decode prog_14_method_85_code 62 = .ok (.ifCond .ne 5, 3) := by decide +kernel
theorem d_M_called_67 : decode prog_14_method_85_code 67 = .ok (.aload_n 0, 1) := by decide +kernel
theorem d_M_called_68 : decode prog_14_method_85_code 68 = .ok (.getfield 351, 3) := by decide +kernel
theorem d_M_called_71 : decode prog_14_method_85_code 71 = .ok (.bipush 125, 2) := by decide +kernel
theorem d_M_called_73 : decode prog_14_method_85_code 73 = .ok (.if_icmp .eq 7, 3) := by decide +kernel
theorem d_M_called_80 : decode prog_14_method_85_code 80 = .ok (.iconst 0, 1) := by decide +kernel
theorem d_M_called_81 : decode prog_14_method_85_code 81 = .ok (.istore_n 3, 1) := by decide +kernel
theorem d_M_called_82 : decode prog_14_method_85_code 82 = .ok (.iload_n 3, 1) := by decide +kernel
theorem d_M_called_83 : decode prog_14_method_85_code 83 = .ok (.ifCond .eq 40, 3) := by decide +kernel
theorem d_M_called_123 : decode prog_14_method_85_code 123 = .ok (.aload_n 0, 1) := by decide +kernel
theorem d_M_called_124 : decode prog_14_method_85_code 124 = .ok (.bipush 125, 2) := by decide +kernel
theorem d_M_called_126 : decode prog_14_method_85_code 126 = .ok (.invokevirtual 457, 3) := by decide +kernel
theorem d_M_called_129 : decode prog_14_method_85_code 129 = .ok (.ifCond .ne 5, 3) := by decide +kernel
theorem d_M_called_134 : decode prog_14_method_85_code 134 = .ok (.aload_n 0, 1) := by decide +kernel
theorem d_M_called_135 : decode prog_14_method_85_code 135 = .ok (.getfield 351, 3) := by decide +kernel
theorem d_M_called_138 : decode prog_14_method_85_code 138 = .ok (.bipush 41, 2) := by decide +kernel
theorem d_M_called_140 : decode prog_14_method_85_code 140 = .ok (.if_icmp .eq 13, 3) := by decide +kernel
theorem d_M_called_153 : decode prog_14_method_85_code 153 = .ok (.aload_n 0, 1) := by decide +kernel
theorem d_M_called_154 : decode prog_14_method_85_code 154 = .ok (.getfield 442, 3) := by decide +kernel
theorem d_M_called_157 : decode prog_14_method_85_code 157 = .ok (.ifCond .eq 9, 3) := by decide +kernel
theorem d_M_called_166 : decode prog_14_method_85_code 166 = .ok (.aload_n 0, 1) := by decide +kernel
theorem d_M_called_167 : decode prog_14_method_85_code 167 = .ok (.invokevirtual 373, 3) := by decide +kernel
theorem d_M_called_170 : decode prog_14_method_85_code 170 = .ok (.ireturn, 1) := by decide +kernel
theorem d_M_called_160 : decode prog_14_method_85_code 160 = .ok (.aload_n 0, 1) := by decide +kernel
theorem d_M_called_161 : decode prog_14_method_85_code 161 = .ok (.iload_n 1, 1) := by decide +kernel
theorem d_M_called_162 : decode prog_14_method_85_code 162 = .ok (.iload_n 2, 1) := by decide +kernel
theorem d_M_called_163 : decode prog_14_method_85_code 163 = .ok (.invokevirtual 466, 3) := by decide +kernel
theorem d_M_called_143 : decode prog_14_method_85_code 143 = .ok (.aload_n 0, 1) := by decide +kernel
theorem d_M_called_144 : decode prog_14_method_85_code 144 = .ok (.iconst 2, 1) := by decide +kernel
theorem d_M_called_145 : decode prog_14_method_85_code 145 = .ok (.aload_n 0, 1) := by decide +kernel
theorem d_M_called_146 : decode prog_14_method_85_code 146 = .ok (.getfield 345, 3) := by decide +kernel
theorem d_M_called_149 : decode prog_14_method_85_code 149 = .ok (.invokevirtual 224, 3) := by decide +kernel
theorem d_M_called_152 : decode prog_14_method_85_code 152 = .ok (.ireturn, 1) := by decide +kernel
theorem d_M_called_132 : decode prog_14_method_85_code 132 = .ok (.iconst 0, 1) := by decide +kernel
theorem d_M_called_133 : decode prog_14_method_85_code 133 = .ok (.ireturn, 1) := by decide +kernel
theorem d_M_called_86 : decode prog_14_method_85_code 86 = .ok (.aload_n 0, 1) := by decide +kernel
theorem d_M_called_87 : decode prog_14_method_85_code 87 = .ok (.invokevirtual 463, 3) := by decide +kernel
theorem d_M_called_90 : decode prog_14_method_85_code 90 = .ok (.ifCond .ne 5, 3) := by decide +kernel
theorem d_M_called_95 : decode prog_14_method_85_code 95 = .ok (.aload_n 0, 1) := by decide +kernel
theorem d_M_called_96 : decode prog_14_method_85_code 96 = .ok (.getfield 351, 3) := by decide +kernel
theorem d_M_called_99 : decode prog_14_method_85_code 99 = .ok (.bipush 44, 2) := by decide +kernel
theorem d_M_called_101 : decode prog_14_method_85_code 101 = .ok (.if_icmp .ne 7, 3) := by decide +kernel
theorem d_M_called_108 : decode prog_14_method_85_code 108 = .ok (.iconst 0, 1) := by decide +kernel
theorem d_M_called_109 : decode prog_14_method_85_code 109 = .ok (.istore_n 3, 1) := by decide +kernel
theorem d_M_called_110 : decode prog_14_method_85_code 110 = .ok (.iload_n 3, 1) := by decide +kernel
theorem d_M_called_111 : decode prog_14_method_85_code 111 = .ok (.ifCond .eq (-29), 3) := by decide +kernel
theorem d_M_called_104 : decode prog_14_method_85_code 104 = .ok (.iconst 1, 1) := by decide +kernel
theorem d_M_called_105 : decode prog_14_method_85_code 105 = .ok (.goto 4, 3) := by decide +kernel
theorem d_M_called_114 : decode prog_14_method_85_code 114 = .ok (.aload_n 0, 1) := by decide +kernel
theorem d_M_called_115 : decode prog_14_method_85_code 115 = .ok (.invokevirtual 373, 3) := by decide +kernel
theorem d_M_called_118 : decode prog_14_method_85_code 118 = .ok (.ifCond .ne (-36), 3) := by decide +kernel
theorem d_M_called_121 : decode prog_14_method_85_code 121 = .ok (.iconst 0, 1) := by decide +kernel
theorem d_M_called_122 : decode prog_14_method_85_code 122 = .ok (.ireturn, 1) := by decide +kernel
theorem d_M_called_93 : decode prog_14_method_85_code 93 = .ok (.iconst 0, 1) := by decide +kernel
theorem d_M_called_94 : decode prog_14_method_85_code 94 = .ok (.ireturn, 1) := by decide +kernel
theorem d_M_called_76 : decode prog_14_method_85_code 76 = .ok (.iconst 1, 1) := by decide +kernel
theorem d_M_called_77 : decode prog_14_method_85_code 77 = .ok (.goto 4, 3) := by decide +kernel
theorem d_M_called_65 : decode prog_14_method_85_code 65 = .ok (.iconst 0, 1) := by decide +kernel
theorem d_M_called_66 : decode prog_14_method_85_code 66 = .ok (.ireturn, 1) := by decide +kernel
theorem d_M_called_41 : decode prog_14_method_85_code 41 = .ok (.bipush 40, 2) := by decide +kernel
theorem d_M_called_43 : decode prog_14_method_85_code 43 = .ok (.invokevirtual 457, 3) := by decide +kernel
theorem d_M_called_46 : decode prog_14_method_85_code 46 = .ok (.ifCond .ne 5, 3) := by decide +kernel
theorem d_M_called_17 : decode prog_14_method_85_code 17 = .ok (.aload_n 0, 1) := by decide +kernel
theorem d_M_called_18 : decode prog_14_method_85_code 18 = .ok (.bipush 98, 2) := by decide +kernel
theorem d_M_called_20 : decode prog_14_method_85_code 20 = .ok (.bipush 121, 2) := by decide +kernel
theorem d_M_called_22 : decode prog_14_method_85_code 22 = .ok (.bipush 32, 2) := by decide +kernel
theorem d_M_called_24 : decode prog_14_method_85_code 24 = .ok (.bipush 32, 2) := by decide +kernel
theorem d_M_called_26 : decode prog_14_method_85_code 26 = .ok (.iconst 2, 1) := by decide +kernel
theorem d_M_called_27 : decode prog_14_method_85_code 27 = .ok (.invokevirtual 376, 3) := by decide +kernel
theorem d_M_called_30 : decode prog_14_method_85_code 30 = .ok (.ifCond .eq 10, 3) := by decide +kernel
theorem d_M_called_33 : decode prog_14_method_85_code 33 = .ok (.aload_n 0, 1) := by decide +kernel
theorem d_M_called_34 : decode prog_14_method_85_code 34 = .ok (.invokevirtual 460, 3) := by decide +kernel
theorem d_M_called_37 : decode prog_14_method_85_code 37 = .ok (.ifCond .eq 12, 3) := by decide +kernel
theorem w1026 : Cond.methodLink "SeriesVaultModel" 466 ⟨"SeriesVaultModel", "reckon", "(II)V"⟩ ∈ aW := aw_of (tb_10 (List.mem_of_getElem? (i := 217) rfl)) rfl
theorem w1027 : Cond.code ⟨"SeriesVaultModel", "reckon", "(II)V"⟩ prog_14_method_70_code 8 none ∈ aW := aw_of (tb_10 (List.mem_of_getElem? (i := 220) rfl)) rfl
theorem w1028 : Cond.instanceMethod ⟨"SeriesVaultModel", "reckon", "(II)V"⟩ ∈ aW := aw_of (tb_10 (List.mem_of_getElem? (i := 219) rfl)) rfl
theorem w1029 : Cond.selects "SeriesVaultModel" ⟨"SeriesVaultModel", "reckon", "(II)V"⟩ ⟨"SeriesVaultModel", "reckon", "(II)V"⟩ ∈ aW := aw_pr (List.mem_map.mpr ⟨_, pv_7 (List.mem_of_getElem? (i := 12) rfl), rfl⟩) rfl
theorem w1030 : Cond.methodLink "SeriesVaultModel" 463 ⟨"SeriesVaultModel", "match", "()Z"⟩ ∈ aW := aw_of (tb_10 (List.mem_of_getElem? (i := 213) rfl)) rfl
theorem w1031 : Cond.code ⟨"SeriesVaultModel", "match", "()Z"⟩ prog_14_method_84_code 1 (some FieldType.boolean) ∈ aW := aw_of (tb_10 (List.mem_of_getElem? (i := 216) rfl)) rfl
theorem w1032 : Cond.instanceMethod ⟨"SeriesVaultModel", "match", "()Z"⟩ ∈ aW := aw_of (tb_10 (List.mem_of_getElem? (i := 215) rfl)) rfl
theorem w1033 : Cond.selects "SeriesVaultModel" ⟨"SeriesVaultModel", "match", "()Z"⟩ ⟨"SeriesVaultModel", "match", "()Z"⟩ ∈ aW := aw_pr (List.mem_map.mpr ⟨_, pv_7 (List.mem_of_getElem? (i := 11) rfl), rfl⟩) rfl
theorem w1034 : Cond.methodLink "SeriesVaultModel" 460 ⟨"SeriesVaultModel", "by", "()Z"⟩ ∈ aW := aw_of (tb_10 (List.mem_of_getElem? (i := 205) rfl)) rfl
theorem w1035 : Cond.code ⟨"SeriesVaultModel", "by", "()Z"⟩ prog_14_method_83_code 7 (some FieldType.boolean) ∈ aW := aw_of (tb_10 (List.mem_of_getElem? (i := 208) rfl)) rfl
theorem w1036 : Cond.instanceMethod ⟨"SeriesVaultModel", "by", "()Z"⟩ ∈ aW := aw_of (tb_10 (List.mem_of_getElem? (i := 207) rfl)) rfl
theorem w1037 : Cond.selects "SeriesVaultModel" ⟨"SeriesVaultModel", "by", "()Z"⟩ ⟨"SeriesVaultModel", "by", "()Z"⟩ ∈ aW := aw_pr (List.mem_map.mpr ⟨_, pv_7 (List.mem_of_getElem? (i := 9) rfl), rfl⟩) rfl
set_option maxHeartbeats 4000000 in
set_option maxRecDepth 100000 in
theorem k_called (l : Launch) (D : va_G) (dA : Nat → ClassId) (sz : Nat) (h : Nat) (ad : Nat → Nat) (x : MS) (wh : Nat) (hlx : x.lx) (hpl : x.pile < 20) (hby : byteF x.tape) (hwk : x.works = true → x.rkc) (hwh : wh ≤ 6) : Met l ⟨"SeriesVaultModel", "called", "(I)Z"⟩ [Cond.code ⟨"SeriesVaultModel", "called", "(I)Z"⟩ prog_14_method_85_code 4 (some FieldType.boolean)] { frames := 6, cells := 0, slots := 0, locals := 114 } (pC D dA [.ref h, .int (nI wh)] (MW dA h ad x) sz) (va_Qi (fun (r9 : Int32) (u9 : MS) => r9 = bI (x.clF wh).1 ∧ u9 = (x.clF wh).2) (fun (u9 : MS) t9 => bW D (va_A (MW dA h ad x) sz) (MW dA h ad u9) t9) (va_A (MW dA h ad x) sz)) 0 0 (va_A (MW dA h ad x) sz) := by
  refine mkC (y := ⟨"SeriesVaultModel", "called", "(I)Z"⟩) (cc := prog_14_method_85_code) (maxL := 4) (av := [.ref h, .int (nI wh)]) (ws := MW dA h ad x) (sz := sz) (Qc := fun A => va_Qi (fun (r9 : Int32) (u9 : MS) => r9 = bI (x.clF wh).1 ∧ u9 = (x.clF wh).2) (fun (u9 : MS) t9 => bW D A (MW dA h ad u9) t9) A) (by decide) (Nat.le_of_ble_eq_true rfl) ?_
  intro A p e s m below meth c ls hsz hB
  obtain ⟨hx, hb, hr, hml, hown, hin, hlk, hE, hK, hP, hD, hS, hA, hN, hl⟩ := hB
  have hown : s.vm.findClass "SeriesVaultModel" = some m.cls := hown
  have hl : lv_has ls 4 [(0, .ref h), (1, .int (nI wh))] := hl
  obtain ⟨H, hH⟩ : ∃ z, z = s.heap := ⟨_, rfl⟩
  have hP : va_P D vwCl (MW dA h ad x) H := by rw [hH]; exact hP
  have hS : va_S A s.heap H [] := by rw [hH]; exact hS
  rw [← hH]
  refine lv_aload_n hx hb d_M_called_0 rfl (lv_at hl 0 rfl) ?_
  refine gF (v := .ref (ad 48)) hx hb hown hE hK hP 0 rfl rfl layM 48 (by decide) w518 rfl d_M_called_1 ?_
  refine lv_aload_n hx hb d_M_called_4 rfl (lv_at hl 0 rfl) ?_
  refine gF (v := .int (nI x.pile)) hx hb hown hE hK hP 0 rfl rfl layM 55 (by decide) w476 rfl d_M_called_5 ?_
  refine lv_iconst (v := 0) hx hb d_M_called_8 (by decide) ?_
  refine nistN (v := 0) hx hb hK hP hD hS 21 1 rfl rfl (x.pile) (by omega) (by decide) d_M_called_9 (fun H locs hP hD hS => ?_)
  have hP : va_P D vwCl (MW dA h ad (MS.s_tableNames x (va_up x.tableNames x.pile 0))) H := hP
  have hD : va_D A (MW dA h ad (MS.s_tableNames x (va_up x.tableNames x.pile 0))) := hD
  refine lv_aload_n hx hb d_M_called_10 rfl (lv_at hl 0 rfl) ?_
  refine jfI (rnV (As := []) (rest := []) hx hb hml hown hE hK (hN _ _ hS) hP hD (k_next l D dA H.size h ad (MS.s_tableNames x (va_up x.tableNames x.pile 0)) hlx.1 hlx.2.2.1 hlx.2.2.2) (q0 := 0) rfl rfl w480 w479 w481 w482 w328 rfl rfl ⟨⟨by decide, by decide⟩, rfl⟩ ⟨(Nat.le_of_ble_eq_true rfl), (Nat.le_of_ble_eq_true rfl)⟩ rfl hl.1 rfl (Nat.le_of_ble_eq_true rfl) d_M_called_11 ⟨(Nat.le_of_ble_eq_true rfl), (Nat.le_of_ble_eq_true rfl)⟩) hP hD hS hA (fun r1 u2 H locs hp9 hP hD hS => ?_)
  obtain ⟨y3, h9u⟩ : ∃ z9, z9 = u2 := ⟨_, rfl⟩
  subst h9u
  have hP : va_P D vwCl (MW dA h ad y3) H := hP
  have hD : va_D A (MW dA h ad y3) := hD
  obtain ⟨hp9, f_e_4⟩ := hp9
  replace hp9 : bI ((MS.s_tableNames x (va_up x.tableNames x.pile 0)).nx).1 = r1 := Eq.symm hp9
  subst hp9
  refine lv_if_eq hx hb d_M_called_14 (tgt := 49) rfl (fun g5 => ?_) (fun g5 => ?_)
  · have g5 := bI_0 g5
    refine lv_iconst (v := 0) hx hb d_M_called_49 (by decide) ?_
    exact rfZ hx hb hr (bI_nar false) hlk hS y3 (by rw [cl_0 g5]; exact ⟨rfl, f_e_4⟩) hP hD (Nat.le_of_ble_eq_true rfl) (Nat.le_of_ble_eq_true rfl) d_M_called_50
  · have g5 := bI_n0 g5
    have J40 : ∀ (yv : MS) (c1 : x.clF wh = yv.cl2 wh) (c2 : yv.lx) (c3 : yv.nmT x.pile) (c4 : yv.tableNames x.pile ≤ 6) (c5 : yv.pile = x.pile) (c6 : yv.works = x.works) (c7 : x.works = true → yv.rkc) (c8 : byteF yv.tape), ∀ (H : Heap) (locs : List Loc) (ls : Array Slot) (hP : va_P D vwCl (MW dA h ad yv) H) (hD : va_D A (MW dA h ad yv)) (hS : va_S A s.heap H locs) (hl : lv_has ls 4 [(1, .int (nI wh)), (0, .ref h)]), W p l e ({ frames := 6, cells := 0, slots := 0, locals := 114 } : Room) s m ([.ref h, .int (nI wh)] : List Value).toArray below meth c H locs 0 0 (MQ below (va_Qi (fun (r9 : Int32) (u9 : MS) => r9 = bI (x.clF wh).1 ∧ u9 = (x.clF wh).2) (fun (u9 : MS) t9 => bW D A (MW dA h ad u9) t9) A) ([.ref h, .int (nI wh)] : List Value).toArray s 0 0 A) (F0 m 40 ls []) := by
      intro yv c1 c2 c3 c4 c5 c6 c7 c8 H locs ls hP hD hS hl
      refine lv_aload_n hx hb d_M_called_40 rfl (lv_at hl 1 rfl) ?_
      have J51 : ∀ (yz : MS) (d1 : (yv.ndF 40).1 = true) (yze : yz = (yv.ndF 40).2), ∀ (H : Heap) (locs : List Loc) (ls : Array Slot) (hP : va_P D vwCl (MW dA h ad yz) H) (hD : va_D A (MW dA h ad yz)) (hS : va_S A s.heap H locs) (hl : lv_has ls 4 [(1, .int (nI wh)), (0, .ref h)]), W p l e ({ frames := 6, cells := 0, slots := 0, locals := 114 } : Room) s m ([.ref h, .int (nI wh)] : List Value).toArray below meth c H locs 0 0 (MQ below (va_Qi (fun (r9 : Int32) (u9 : MS) => r9 = bI (x.clF wh).1 ∧ u9 = (x.clF wh).2) (fun (u9 : MS) t9 => bW D A (MW dA h ad u9) t9) A) ([.ref h, .int (nI wh)] : List Value).toArray s 0 0 A) (F0 m 51 ls []) := by
        intro yz d1 yze H locs ls hP hD hS hl
        have lz : yz.lx := by rw [yze]; exact (nd_in c2 d1).1
        have kz : yv.tk yz := by rw [yze]; exact tk_nd _ _
        refine lv_aload_n hx hb d_M_called_51 rfl (lv_at hl 1 rfl) ?_
        refine gF (v := .int (nI yz.too)) hx hb hown hE hK hP 0 rfl rfl layM 46 (by decide) w463 rfl d_M_called_52 ?_
        refine lv_istore_n hx hb d_M_called_55 rfl hl (by decide) rfl (fun ls hl => ?_)
        have hl : lv_has ls 4 [(2, .int (nI yz.too)), (1, .int (nI wh)), (0, .ref h)] := hl
        refine lv_aload_n hx hb d_M_called_56 rfl (lv_at hl 2 rfl) ?_
        refine lv_bipush (v := 123) hx hb d_M_called_57 (by decide) ?_
        refine jfI (rnV (As := [.int 123]) (rest := []) hx hb hml hown hE hK (hN _ _ hS) hP hD (k_need l D dA H.size h ad yz 123 lz) (q0 := 0) rfl rfl w1023 w1022 w1024 w1025 w328 rfl rfl ⟨⟨by decide, by decide⟩, rfl⟩ ⟨(Nat.le_of_ble_eq_true rfl), (Nat.le_of_ble_eq_true rfl)⟩ rfl hl.1 rfl (Nat.le_of_ble_eq_true rfl) d_M_called_59 ⟨(Nat.le_of_ble_eq_true rfl), (Nat.le_of_ble_eq_true rfl)⟩) hP hD hS hA (fun r6 u7 H locs hp9 hP hD hS => ?_)
        obtain ⟨y8, h9u⟩ : ∃ z9, z9 = u7 := ⟨_, rfl⟩
        subst h9u
        have hP : va_P D vwCl (MW dA h ad y8) H := hP
        have hD : va_D A (MW dA h ad y8) := hD
        obtain ⟨hp9, f_e_9⟩ := hp9
        replace hp9 : bI (yz.ndF 123).1 = r6 := Eq.symm hp9
        subst hp9
        refine lv_if_ne hx hb d_M_called_62 (tgt := 67) rfl (fun g10 => ?_) (fun g10 => ?_)
        · have g10 := bI_n0 g10
          have lu : y8.lx := by rw [f_e_9]; exact (nd_in lz g10).1
          have k123 : yz.kind = 123 := (nd_in lz g10).2.2.2
          have n123 : yz.ndF 123 = yz.nx := if_pos k123
          have a123 : yz.nx.1 = true := by rw [← n123]; exact g10
          have e123 : y8 = yz.nx.2 := by rw [← n123]; exact f_e_9
          have tu : y8.isT := by rw [e123]; exact (nx_isT a123).1
          have ku : yv.tk y8 := tk_tr kz (by rw [f_e_9]; exact tk_nd _ _)
          have bz : byteF yz.tape := by rw [tk_f kz MS.tape rfl]; exact c8
          have ou : yv.okA y8.frm → yv.okA yz.too := fun o9 => (okA_t (sT_tk kz)).mpr (okA_x bz a123 e123 ((okA_t (sT_tk kz)).mp o9))
          refine lv_aload_n hx hb d_M_called_67 rfl (lv_at hl 2 rfl) ?_
          refine gF (v := .int y8.kind) hx hb hown hE hK hP 0 rfl rfl layM 44 (by decide) w469 rfl d_M_called_68 ?_
          refine lv_bipush (v := 125) hx hb d_M_called_71 (by decide) ?_
          refine lv_icmp_eq hx hb d_M_called_73 (tgt := 80) rfl (fun g11 => ?_) (fun g11 => ?_)
          · have g11 := g11
            refine lv_iconst (v := 0) hx hb d_M_called_80 (by decide) ?_
            refine lv_istore_n hx hb d_M_called_81 rfl hl (by decide) rfl (fun ls hl => ?_)
            have hl : lv_has ls 4 [(3, .int 0), (2, .int (nI yz.too)), (1, .int (nI wh)), (0, .ref h)] := hl
            have L82 : ∀ (k9 : Nat) (ym : MS) (b : Bool) (w : Nat) (m1 : yv.cl2 wh = (if b = true then MS.cl3 (MS.mlF w ym) wh yz.too else ym.cl4 wh yz.too)) (m2 : ym.lx) (m3 : ym.isT) (m4 : yv.tk ym) (m5 : yv.okA ym.frm → yv.okA yz.too) (m6 : b = true → ym.length + 1 ≤ w + ym.too) (hk9 : w + (if b = true then 1 else 0) = k9), ∀ (H : Heap) (locs : List Loc) (ls : Array Slot) (hP : va_P D vwCl (MW dA h ad ym) H) (hD : va_D A (MW dA h ad ym)) (hS : va_S A s.heap H locs) (hl : lv_has ls 4 [(3, .int (bI b)), (2, .int (nI yz.too)), (1, .int (nI wh)), (0, .ref h)]), W p l e ({ frames := 6, cells := 0, slots := 0, locals := 114 } : Room) s m ([.ref h, .int (nI wh)] : List Value).toArray below meth c H locs 0 0 (MQ below (va_Qi (fun (r9 : Int32) (u9 : MS) => r9 = bI (x.clF wh).1 ∧ u9 = (x.clF wh).2) (fun (u9 : MS) t9 => bW D A (MW dA h ad u9) t9) A) ([.ref h, .int (nI wh)] : List Value).toArray s 0 0 A) (F0 m 82 ls []) := by
              intro k9
              induction k9 using Nat.strongRecOn with
              | ind k9 ih82 =>
                intro ym b w m1 m2 m3 m4 m5 m6 hk9 H locs ls hP hD hS hl
                refine lv_iload_n hx hb d_M_called_82 rfl (lv_at hl 0 rfl) ?_
                refine lv_if_eq hx hb d_M_called_83 (tgt := 123) rfl (fun g12 => ?_) (fun g12 => ?_)
                · have g12 := bI_0 g12
                  have m1b : yv.cl2 wh = ym.cl4 wh yz.too := m1.trans (if_neg (by rw [g12]; decide))
                  refine lv_aload_n hx hb d_M_called_123 rfl (lv_at hl 3 rfl) ?_
                  refine lv_bipush (v := 125) hx hb d_M_called_124 (by decide) ?_
                  refine jfI (rnV (As := [.int 125]) (rest := []) hx hb hml hown hE hK (hN _ _ hS) hP hD (k_need l D dA H.size h ad ym 125 m2) (q0 := 0) rfl rfl w1023 w1022 w1024 w1025 w328 rfl rfl ⟨⟨by decide, by decide⟩, rfl⟩ ⟨(Nat.le_of_ble_eq_true rfl), (Nat.le_of_ble_eq_true rfl)⟩ rfl hl.1 rfl (Nat.le_of_ble_eq_true rfl) d_M_called_126 ⟨(Nat.le_of_ble_eq_true rfl), (Nat.le_of_ble_eq_true rfl)⟩) hP hD hS hA (fun r13 u14 H locs hp9 hP hD hS => ?_)
                  obtain ⟨y15, h9u⟩ : ∃ z9, z9 = u14 := ⟨_, rfl⟩
                  subst h9u
                  have hP : va_P D vwCl (MW dA h ad y15) H := hP
                  have hD : va_D A (MW dA h ad y15) := hD
                  obtain ⟨hp9, f_e_16⟩ := hp9
                  replace hp9 : bI (ym.ndF 125).1 = r13 := Eq.symm hp9
                  subst hp9
                  refine lv_if_ne hx hb d_M_called_129 (tgt := 134) rfl (fun g17 => ?_) (fun g17 => ?_)
                  · have g17 := bI_n0 g17
                    have lg : y15.lx := by rw [f_e_16]; exact (nd_in m2 g17).1
                    have kg : yv.tk y15 := tk_tr m4 (by rw [f_e_16]; exact tk_nd _ _)
                    have k125 : ym.kind = 125 := (nd_in m2 g17).2.2.2
                    have og : yv.okA yz.too := m5 ((okA_t (sT_tk m4)).mpr (okA_125 m3 k125))
                    have lg3 : yz.too ≤ y15.length := by rw [tk_f kg MS.length rfl, ← tk_f kz MS.length rfl]; exact lz.2.2.1
                    refine lv_aload_n hx hb d_M_called_134 rfl (lv_at hl 3 rfl) ?_
                    refine gF (v := .int y15.kind) hx hb hown hE hK hP 0 rfl rfl layM 44 (by decide) w469 rfl d_M_called_135 ?_
                    refine lv_bipush (v := 41) hx hb d_M_called_138 (by decide) ?_
                    refine lv_icmp_eq hx hb d_M_called_140 (tgt := 153) rfl (fun g18 => ?_) (fun g18 => ?_)
                    · have g18 := g18
                      refine lv_aload_n hx hb d_M_called_153 rfl (lv_at hl 3 rfl) ?_
                      refine gF (v := .int (bI y15.works)) hx hb hown hE hK hP 0 rfl rfl layM 56 (by decide) w475 rfl d_M_called_154 ?_
                      refine lv_if_eq hx hb d_M_called_157 (tgt := 166) rfl (fun g19 => ?_) (fun g19 => ?_)
                      · have g19 := bI_0 g19
                        refine lv_aload_n hx hb d_M_called_166 rfl (lv_at hl 3 rfl) ?_
                        refine jfI (rnV (As := []) (rest := []) hx hb hml hown hE hK (hN _ _ hS) hP hD (k_next l D dA H.size h ad y15 lg.1 lg.2.2.1 lg.2.2.2) (q0 := 0) rfl rfl w480 w479 w481 w482 w328 rfl rfl ⟨⟨by decide, by decide⟩, rfl⟩ ⟨(Nat.le_of_ble_eq_true rfl), (Nat.le_of_ble_eq_true rfl)⟩ rfl hl.1 rfl (Nat.le_of_ble_eq_true rfl) d_M_called_167 ⟨(Nat.le_of_ble_eq_true rfl), (Nat.le_of_ble_eq_true rfl)⟩) hP hD hS hA (fun r20 u21 H locs hp9 hP hD hS => ?_)
                        obtain ⟨y22, h9u⟩ : ∃ z9, z9 = u21 := ⟨_, rfl⟩
                        subst h9u
                        have hP : va_P D vwCl (MW dA h ad y22) H := hP
                        have hD : va_D A (MW dA h ad y22) := hD
                        obtain ⟨hp9, f_e_23⟩ := hp9
                        replace hp9 : bI (y15.nx).1 = r20 := Eq.symm hp9
                        subst hp9
                        exact rfZ hx hb hr (bI_nar ((y15.nx).1)) hlk hS y22 (by rw [c1, m1b, c4_1 g17 f_e_16, c5_n g18 g19]; exact ⟨rfl, f_e_23⟩) hP hD (Nat.le_of_ble_eq_true rfl) (Nat.le_of_ble_eq_true rfl) d_M_called_170
                      · have g19 := bI_n0 g19
                        have rg : y15.rkc := rkc_tk kg (c7 (by rw [← c6, ← tk_f kg MS.works rfl]; exact g19))
                        have pg : y15.pile = x.pile := (tk_f kg MS.pile rfl).trans c5
                        have ng : y15.nOK y15.pile := by rw [pg]; exact nOK_of hpl (nmT_tk kg c3) (by rw [tk_tn kg]; exact c4) lg.1
                        refine lv_aload_n hx hb d_M_called_160 rfl (lv_at hl 3 rfl) ?_
                        refine lv_iload_n hx hb d_M_called_161 rfl (lv_at hl 2 rfl) ?_
                        refine lv_iload_n hx hb d_M_called_162 rfl (lv_at hl 1 rfl) ?_
                        refine jfV (rnV (As := [.int (nI wh), .int (nI yz.too)]) (rest := []) hx hb hml hown hE hK (hN _ _ hS) hP hD (k_reckon l D dA H.size h ad y15 wh yz.too rg.1 rg.2.1 rg.2.2.1 (okA_mOK ((okA_t (sT_tk kg)).mp og) lg3) ng lg.1 rg.2.2.2.1 rg.2.2.2.2.1 rg.2.2.2.2.2.1 rg.2.2.2.2.2.2.1 rg.2.2.2.2.2.2.2 hwh) (q0 := 0) rfl rfl w1027 w1026 w1028 w1029 w328 rfl rfl ⟨⟨by decide, by decide⟩, rfl⟩ ⟨(Nat.le_of_ble_eq_true rfl), (Nat.le_of_ble_eq_true rfl)⟩ rfl hl.1 rfl (Nat.le_of_ble_eq_true rfl) d_M_called_163 ⟨(Nat.le_of_ble_eq_true rfl), (Nat.le_of_ble_eq_true rfl)⟩) hP hD hS hA (fun u25 H locs hp9 hP hD hS => ?_)
                        obtain ⟨y26, h9u⟩ : ∃ z9, z9 = u25 := ⟨_, rfl⟩
                        subst h9u
                        have hP : va_P D vwCl (MW dA h ad y26) H := hP
                        have hD : va_D A (MW dA h ad y26) := hD
                        have f_e_27 := hp9
                        refine lv_aload_n hx hb d_M_called_166 rfl (lv_at hl 3 rfl) ?_
                        refine jfI (rnV (As := []) (rest := []) hx hb hml hown hE hK (hN _ _ hS) hP hD (k_next l D dA H.size h ad y26 (show y26.lx by rw [f_e_27]; exact lx_rk lg).1 (show y26.lx by rw [f_e_27]; exact lx_rk lg).2.2.1 (show y26.lx by rw [f_e_27]; exact lx_rk lg).2.2.2) (q0 := 0) rfl rfl w480 w479 w481 w482 w328 rfl rfl ⟨⟨by decide, by decide⟩, rfl⟩ ⟨(Nat.le_of_ble_eq_true rfl), (Nat.le_of_ble_eq_true rfl)⟩ rfl hl.1 rfl (Nat.le_of_ble_eq_true rfl) d_M_called_167 ⟨(Nat.le_of_ble_eq_true rfl), (Nat.le_of_ble_eq_true rfl)⟩) hP hD hS hA (fun r28 u29 H locs hp9 hP hD hS => ?_)
                        obtain ⟨y30, h9u⟩ : ∃ z9, z9 = u29 := ⟨_, rfl⟩
                        subst h9u
                        have hP : va_P D vwCl (MW dA h ad y30) H := hP
                        have hD : va_D A (MW dA h ad y30) := hD
                        obtain ⟨hp9, f_e_31⟩ := hp9
                        replace hp9 : bI (y26.nx).1 = r28 := Eq.symm hp9
                        subst hp9
                        exact rfZ hx hb hr (bI_nar ((y26.nx).1)) hlk hS y30 (by rw [c1, m1b, c4_1 g17 f_e_16, c5_y g18 g19 f_e_27]; exact ⟨rfl, f_e_31⟩) hP hD (Nat.le_of_ble_eq_true rfl) (Nat.le_of_ble_eq_true rfl) d_M_called_170
                    · have g18 := g18
                      refine lv_aload_n hx hb d_M_called_143 rfl (lv_at hl 3 rfl) ?_
                      refine lv_iconst (v := 2) hx hb d_M_called_144 (by decide) ?_
                      refine lv_aload_n hx hb d_M_called_145 rfl (lv_at hl 3 rfl) ?_
                      refine gF (v := .int (nI y15.frm)) hx hb hown hE hK hP 0 rfl rfl layM 45 (by decide) w464 rfl d_M_called_146 ?_
                      refine jfI (rnV (As := [.int 2, .int (nI y15.frm)]) (rest := []) hx hb hml hown hE hK (hN _ _ hS) hP hD (k_flaw_0 l D dA H.size h ad y15 2 (nI y15.frm) lg.2.2.2) (q0 := 0) rfl rfl w431 w430 w432 w433 w328 rfl rfl ⟨⟨by decide, by decide⟩, rfl⟩ ⟨(Nat.le_of_ble_eq_true rfl), (Nat.le_of_ble_eq_true rfl)⟩ rfl hl.1 rfl (Nat.le_of_ble_eq_true rfl) d_M_called_149 ⟨(Nat.le_of_ble_eq_true rfl), (Nat.le_of_ble_eq_true rfl)⟩) hP hD hS hA (fun r32 u33 H locs hp9 hP hD hS => ?_)
                      have hP : va_P D vwCl (MW dA h ad (MS.s_faultPlace (MS.s_faultCode y15 2) (nI y15.frm))) H := hP
                      have hD : va_D A (MW dA h ad (MS.s_faultPlace (MS.s_faultCode y15 2) (nI y15.frm))) := hD
                      replace hp9 : bI false = r32 := Eq.symm hp9
                      subst hp9
                      exact rfZ hx hb hr (bI_nar false) hlk hS (MS.s_faultPlace (MS.s_faultCode y15 2) (nI y15.frm)) (by rw [c1, m1b, c4_1 g17 f_e_16, c5_x g18]; exact ⟨rfl, rfl⟩) hP hD (Nat.le_of_ble_eq_true rfl) (Nat.le_of_ble_eq_true rfl) d_M_called_152
                  · have g17 := bI_0 g17
                    refine lv_iconst (v := 0) hx hb d_M_called_132 (by decide) ?_
                    exact rfZ hx hb hr (bI_nar false) hlk hS y15 (by rw [c1, m1b, c4_0 g17]; exact ⟨rfl, f_e_16⟩) hP hD (Nat.le_of_ble_eq_true rfl) (Nat.le_of_ble_eq_true rfl) d_M_called_133
                · have g12 := bI_n0 g12
                  have m1b : yv.cl2 wh = MS.cl3 (MS.mlF w ym) wh yz.too := m1.trans (if_pos g12)
                  have m6b := m6 g12
                  have m2t := m2.2.2.1
                  refine lv_aload_n hx hb d_M_called_86 rfl (lv_at hl 3 rfl) ?_
                  refine jfI (rnV (As := []) (rest := []) hx hb hml hown hE hK (hN _ _ hS) hP hD (k_match l D dA H.size h ad ym m2) (q0 := 0) rfl rfl w1031 w1030 w1032 w1033 w328 rfl rfl ⟨⟨by decide, by decide⟩, rfl⟩ ⟨(Nat.le_of_ble_eq_true rfl), (Nat.le_of_ble_eq_true rfl)⟩ rfl hl.1 rfl (Nat.le_of_ble_eq_true rfl) d_M_called_87 ⟨(Nat.le_of_ble_eq_true rfl), (Nat.le_of_ble_eq_true rfl)⟩) hP hD hS hA (fun r34 u35 H locs hp9 hP hD hS => ?_)
                  obtain ⟨y36, h9u⟩ : ∃ z9, z9 = u35 := ⟨_, rfl⟩
                  subst h9u
                  have hP : va_P D vwCl (MW dA h ad y36) H := hP
                  have hD : va_D A (MW dA h ad y36) := hD
                  obtain ⟨hp9, f_e_37⟩ := hp9
                  replace hp9 : bI (ym.mcF).1 = r34 := Eq.symm hp9
                  subst hp9
                  refine lv_if_ne hx hb d_M_called_90 (tgt := 95) rfl (fun g38 => ?_) (fun g38 => ?_)
                  · have g38 := bI_n0 g38
                    have bm : byteF ym.tape := by rw [tk_f m4 MS.tape rfl]; exact c8
                    have me := mc_in bm m2 m3 (show ym.mcF = (true, y36) from Prod.ext g38 f_e_37.symm)
                    have be : byteF y36.tape := by rw [me.2.2.1.1]; exact bm
                    have ml := me.2.2.2.2.1
                    refine lv_aload_n hx hb d_M_called_95 rfl (lv_at hl 3 rfl) ?_
                    refine gF (v := .int y36.kind) hx hb hown hE hK hP 0 rfl rfl layM 44 (by decide) w469 rfl d_M_called_96 ?_
                    refine lv_bipush (v := 44) hx hb d_M_called_99 (by decide) ?_
                    refine lv_icmp_ne hx hb d_M_called_101 (tgt := 108) rfl (fun g39 => ?_) (fun g39 => ?_)
                    · have g39 := g39
                      refine lv_iconst (v := 0) hx hb d_M_called_108 (by decide) ?_
                      refine lv_istore_n hx hb d_M_called_109 rfl hl (by decide) rfl (fun ls hl => ?_)
                      have hl : lv_has ls 4 [(3, .int 0), (2, .int (nI yz.too)), (1, .int (nI wh)), (0, .ref h)] := hl
                      refine lv_iload_n hx hb d_M_called_110 rfl (lv_at hl 0 rfl) ?_
                      refine lv_if_eq hx hb d_M_called_111 (tgt := 82) rfl (fun _ => ?_) (fun h9 => absurd (by decide) h9)
                      exact ih82 _ (by rw [← hk9, if_pos g12]; first | (rw [if_pos rfl]; omega) | (rw [if_neg (by decide)]; omega)) y36 false (w - 1) (m1b.trans (ml_c2 (ml_e (by omega) g38 f_e_37 g39))) me.1 me.2.1 (tk_tr m4 me.2.2.2.1) (fun o9 => m5 ((okA_t (sT_tk m4)).mpr (me.2.2.2.2.2 ((okA_t (sT_tk m4)).mp o9)))) (fun z9 => Bool.noConfusion z9) rfl H _ ls hP hD hS (lv_sub hl [0, 1, 2, 3] rfl)
                    · have g39 := g39
                      refine lv_iconst (v := 1) hx hb d_M_called_104 (by decide) ?_
                      refine lv_goto hx hb d_M_called_105 (tgt := 109) rfl ?_
                      refine lv_istore_n hx hb d_M_called_109 rfl hl (by decide) rfl (fun ls hl => ?_)
                      have hl : lv_has ls 4 [(3, .int 1), (2, .int (nI yz.too)), (1, .int (nI wh)), (0, .ref h)] := hl
                      refine lv_iload_n hx hb d_M_called_110 rfl (lv_at hl 0 rfl) ?_
                      refine lv_if_eq hx hb d_M_called_111 (tgt := 82) rfl (fun h9 => absurd h9 (by decide)) (fun _ => ?_)
                      refine lv_aload_n hx hb d_M_called_114 rfl (lv_at hl 3 rfl) ?_
                      refine jfI (rnV (As := []) (rest := []) hx hb hml hown hE hK (hN _ _ hS) hP hD (k_next l D dA H.size h ad y36 me.1.1 me.1.2.2.1 me.1.2.2.2) (q0 := 0) rfl rfl w480 w479 w481 w482 w328 rfl rfl ⟨⟨by decide, by decide⟩, rfl⟩ ⟨(Nat.le_of_ble_eq_true rfl), (Nat.le_of_ble_eq_true rfl)⟩ rfl hl.1 rfl (Nat.le_of_ble_eq_true rfl) d_M_called_115 ⟨(Nat.le_of_ble_eq_true rfl), (Nat.le_of_ble_eq_true rfl)⟩) hP hD hS hA (fun r40 u41 H locs hp9 hP hD hS => ?_)
                      obtain ⟨y42, h9u⟩ : ∃ z9, z9 = u41 := ⟨_, rfl⟩
                      subst h9u
                      have hP : va_P D vwCl (MW dA h ad y42) H := hP
                      have hD : va_D A (MW dA h ad y42) := hD
                      obtain ⟨hp9, f_e_43⟩ := hp9
                      replace hp9 : bI (y36.nx).1 = r40 := Eq.symm hp9
                      subst hp9
                      refine lv_if_ne hx hb d_M_called_118 (tgt := 82) rfl (fun g44 => ?_) (fun g44 => ?_)
                      · have g44 := bI_n0 g44
                        exact ih82 _ (by rw [← hk9, if_pos g12]; first | (rw [if_pos rfl]; omega) | (rw [if_neg (by decide)]; omega)) y42 true (w - 1) (m1b.trans (ml_c1 (ml_m (by omega) g38 f_e_37 g39 g44 f_e_43))) (by rw [f_e_43]; exact (nx_in me.1 g44).1) (by rw [f_e_43]; exact (nx_isT g44).1) (tk_tr m4 (tk_tr me.2.2.2.1 (by rw [f_e_43]; exact tk_nx _))) (fun o9 => m5 ((okA_t (sT_tk m4)).mpr (me.2.2.2.2.2 ((okA_t (sT_tk m4)).mp ((okA_t (sT_tk (tk_tr m4 me.2.2.2.1))).mpr (okA_44 be me.2.1 g39 g44 f_e_43 ((okA_t (sT_tk (tk_tr m4 me.2.2.2.1))).mp o9))))))) (fun _ => by have a9 := (nx_in me.1 g44).2.1; have b9 : y42.frm ≤ y42.too := (by rw [f_e_43]; exact (nx_in me.1 g44).1 : y42.lx).2.1; rw [← f_e_43] at a9; have d9 : y42.length = ym.length := (by rw [f_e_43]; exact (nx_sT _).2.trans me.2.2.1.2); omega) rfl H _ ls hP hD hS (lv_sub hl [0, 1, 2, 3] rfl)
                      · have g44 := bI_0 g44
                        refine lv_iconst (v := 0) hx hb d_M_called_121 (by decide) ?_
                        exact rfZ hx hb hr (bI_nar false) hlk hS y42 (by rw [c1, m1b, ml_n (by omega) g38 f_e_37 g39 g44]; exact ⟨rfl, f_e_43⟩) hP hD (Nat.le_of_ble_eq_true rfl) (Nat.le_of_ble_eq_true rfl) d_M_called_122
                  · have g38 := bI_0 g38
                    refine lv_iconst (v := 0) hx hb d_M_called_93 (by decide) ?_
                    exact rfZ hx hb hr (bI_nar false) hlk hS y36 (by rw [c1, m1b, ml_0 (by omega) g38]; exact ⟨rfl, f_e_37⟩) hP hD (Nat.le_of_ble_eq_true rfl) (Nat.le_of_ble_eq_true rfl) d_M_called_94
            exact L82 _ y8 false (y8.length + 1) ((c2_e d1 yze g10 f_e_9 g11).trans (if_neg (by decide)).symm) lu tu ku ou (fun z9 => Bool.noConfusion z9) rfl H _ ls hP hD hS (lv_sub hl [0, 1, 2, 3] rfl)
          · have g11 := g11
            refine lv_iconst (v := 1) hx hb d_M_called_76 (by decide) ?_
            refine lv_goto hx hb d_M_called_77 (tgt := 81) rfl ?_
            refine lv_istore_n hx hb d_M_called_81 rfl hl (by decide) rfl (fun ls hl => ?_)
            have hl : lv_has ls 4 [(3, .int 1), (2, .int (nI yz.too)), (1, .int (nI wh)), (0, .ref h)] := hl
            have L82 : ∀ (k9 : Nat) (ym : MS) (b : Bool) (w : Nat) (m1 : yv.cl2 wh = (if b = true then MS.cl3 (MS.mlF w ym) wh yz.too else ym.cl4 wh yz.too)) (m2 : ym.lx) (m3 : ym.isT) (m4 : yv.tk ym) (m5 : yv.okA ym.frm → yv.okA yz.too) (m6 : b = true → ym.length + 1 ≤ w + ym.too) (hk9 : w + (if b = true then 1 else 0) = k9), ∀ (H : Heap) (locs : List Loc) (ls : Array Slot) (hP : va_P D vwCl (MW dA h ad ym) H) (hD : va_D A (MW dA h ad ym)) (hS : va_S A s.heap H locs) (hl : lv_has ls 4 [(3, .int (bI b)), (2, .int (nI yz.too)), (1, .int (nI wh)), (0, .ref h)]), W p l e ({ frames := 6, cells := 0, slots := 0, locals := 114 } : Room) s m ([.ref h, .int (nI wh)] : List Value).toArray below meth c H locs 0 0 (MQ below (va_Qi (fun (r9 : Int32) (u9 : MS) => r9 = bI (x.clF wh).1 ∧ u9 = (x.clF wh).2) (fun (u9 : MS) t9 => bW D A (MW dA h ad u9) t9) A) ([.ref h, .int (nI wh)] : List Value).toArray s 0 0 A) (F0 m 82 ls []) := by
              intro k9
              induction k9 using Nat.strongRecOn with
              | ind k9 ih82 =>
                intro ym b w m1 m2 m3 m4 m5 m6 hk9 H locs ls hP hD hS hl
                refine lv_iload_n hx hb d_M_called_82 rfl (lv_at hl 0 rfl) ?_
                refine lv_if_eq hx hb d_M_called_83 (tgt := 123) rfl (fun g45 => ?_) (fun g45 => ?_)
                · have g45 := bI_0 g45
                  have m1b : yv.cl2 wh = ym.cl4 wh yz.too := m1.trans (if_neg (by rw [g45]; decide))
                  refine lv_aload_n hx hb d_M_called_123 rfl (lv_at hl 3 rfl) ?_
                  refine lv_bipush (v := 125) hx hb d_M_called_124 (by decide) ?_
                  refine jfI (rnV (As := [.int 125]) (rest := []) hx hb hml hown hE hK (hN _ _ hS) hP hD (k_need l D dA H.size h ad ym 125 m2) (q0 := 0) rfl rfl w1023 w1022 w1024 w1025 w328 rfl rfl ⟨⟨by decide, by decide⟩, rfl⟩ ⟨(Nat.le_of_ble_eq_true rfl), (Nat.le_of_ble_eq_true rfl)⟩ rfl hl.1 rfl (Nat.le_of_ble_eq_true rfl) d_M_called_126 ⟨(Nat.le_of_ble_eq_true rfl), (Nat.le_of_ble_eq_true rfl)⟩) hP hD hS hA (fun r46 u47 H locs hp9 hP hD hS => ?_)
                  obtain ⟨y48, h9u⟩ : ∃ z9, z9 = u47 := ⟨_, rfl⟩
                  subst h9u
                  have hP : va_P D vwCl (MW dA h ad y48) H := hP
                  have hD : va_D A (MW dA h ad y48) := hD
                  obtain ⟨hp9, f_e_49⟩ := hp9
                  replace hp9 : bI (ym.ndF 125).1 = r46 := Eq.symm hp9
                  subst hp9
                  refine lv_if_ne hx hb d_M_called_129 (tgt := 134) rfl (fun g50 => ?_) (fun g50 => ?_)
                  · have g50 := bI_n0 g50
                    have lg : y48.lx := by rw [f_e_49]; exact (nd_in m2 g50).1
                    have kg : yv.tk y48 := tk_tr m4 (by rw [f_e_49]; exact tk_nd _ _)
                    have k125 : ym.kind = 125 := (nd_in m2 g50).2.2.2
                    have og : yv.okA yz.too := m5 ((okA_t (sT_tk m4)).mpr (okA_125 m3 k125))
                    have lg3 : yz.too ≤ y48.length := by rw [tk_f kg MS.length rfl, ← tk_f kz MS.length rfl]; exact lz.2.2.1
                    refine lv_aload_n hx hb d_M_called_134 rfl (lv_at hl 3 rfl) ?_
                    refine gF (v := .int y48.kind) hx hb hown hE hK hP 0 rfl rfl layM 44 (by decide) w469 rfl d_M_called_135 ?_
                    refine lv_bipush (v := 41) hx hb d_M_called_138 (by decide) ?_
                    refine lv_icmp_eq hx hb d_M_called_140 (tgt := 153) rfl (fun g51 => ?_) (fun g51 => ?_)
                    · have g51 := g51
                      refine lv_aload_n hx hb d_M_called_153 rfl (lv_at hl 3 rfl) ?_
                      refine gF (v := .int (bI y48.works)) hx hb hown hE hK hP 0 rfl rfl layM 56 (by decide) w475 rfl d_M_called_154 ?_
                      refine lv_if_eq hx hb d_M_called_157 (tgt := 166) rfl (fun g52 => ?_) (fun g52 => ?_)
                      · have g52 := bI_0 g52
                        refine lv_aload_n hx hb d_M_called_166 rfl (lv_at hl 3 rfl) ?_
                        refine jfI (rnV (As := []) (rest := []) hx hb hml hown hE hK (hN _ _ hS) hP hD (k_next l D dA H.size h ad y48 lg.1 lg.2.2.1 lg.2.2.2) (q0 := 0) rfl rfl w480 w479 w481 w482 w328 rfl rfl ⟨⟨by decide, by decide⟩, rfl⟩ ⟨(Nat.le_of_ble_eq_true rfl), (Nat.le_of_ble_eq_true rfl)⟩ rfl hl.1 rfl (Nat.le_of_ble_eq_true rfl) d_M_called_167 ⟨(Nat.le_of_ble_eq_true rfl), (Nat.le_of_ble_eq_true rfl)⟩) hP hD hS hA (fun r53 u54 H locs hp9 hP hD hS => ?_)
                        obtain ⟨y55, h9u⟩ : ∃ z9, z9 = u54 := ⟨_, rfl⟩
                        subst h9u
                        have hP : va_P D vwCl (MW dA h ad y55) H := hP
                        have hD : va_D A (MW dA h ad y55) := hD
                        obtain ⟨hp9, f_e_56⟩ := hp9
                        replace hp9 : bI (y48.nx).1 = r53 := Eq.symm hp9
                        subst hp9
                        exact rfZ hx hb hr (bI_nar ((y48.nx).1)) hlk hS y55 (by rw [c1, m1b, c4_1 g50 f_e_49, c5_n g51 g52]; exact ⟨rfl, f_e_56⟩) hP hD (Nat.le_of_ble_eq_true rfl) (Nat.le_of_ble_eq_true rfl) d_M_called_170
                      · have g52 := bI_n0 g52
                        have rg : y48.rkc := rkc_tk kg (c7 (by rw [← c6, ← tk_f kg MS.works rfl]; exact g52))
                        have pg : y48.pile = x.pile := (tk_f kg MS.pile rfl).trans c5
                        have ng : y48.nOK y48.pile := by rw [pg]; exact nOK_of hpl (nmT_tk kg c3) (by rw [tk_tn kg]; exact c4) lg.1
                        refine lv_aload_n hx hb d_M_called_160 rfl (lv_at hl 3 rfl) ?_
                        refine lv_iload_n hx hb d_M_called_161 rfl (lv_at hl 2 rfl) ?_
                        refine lv_iload_n hx hb d_M_called_162 rfl (lv_at hl 1 rfl) ?_
                        refine jfV (rnV (As := [.int (nI wh), .int (nI yz.too)]) (rest := []) hx hb hml hown hE hK (hN _ _ hS) hP hD (k_reckon l D dA H.size h ad y48 wh yz.too rg.1 rg.2.1 rg.2.2.1 (okA_mOK ((okA_t (sT_tk kg)).mp og) lg3) ng lg.1 rg.2.2.2.1 rg.2.2.2.2.1 rg.2.2.2.2.2.1 rg.2.2.2.2.2.2.1 rg.2.2.2.2.2.2.2 hwh) (q0 := 0) rfl rfl w1027 w1026 w1028 w1029 w328 rfl rfl ⟨⟨by decide, by decide⟩, rfl⟩ ⟨(Nat.le_of_ble_eq_true rfl), (Nat.le_of_ble_eq_true rfl)⟩ rfl hl.1 rfl (Nat.le_of_ble_eq_true rfl) d_M_called_163 ⟨(Nat.le_of_ble_eq_true rfl), (Nat.le_of_ble_eq_true rfl)⟩) hP hD hS hA (fun u58 H locs hp9 hP hD hS => ?_)
                        obtain ⟨y59, h9u⟩ : ∃ z9, z9 = u58 := ⟨_, rfl⟩
                        subst h9u
                        have hP : va_P D vwCl (MW dA h ad y59) H := hP
                        have hD : va_D A (MW dA h ad y59) := hD
                        have f_e_60 := hp9
                        refine lv_aload_n hx hb d_M_called_166 rfl (lv_at hl 3 rfl) ?_
                        refine jfI (rnV (As := []) (rest := []) hx hb hml hown hE hK (hN _ _ hS) hP hD (k_next l D dA H.size h ad y59 (show y59.lx by rw [f_e_60]; exact lx_rk lg).1 (show y59.lx by rw [f_e_60]; exact lx_rk lg).2.2.1 (show y59.lx by rw [f_e_60]; exact lx_rk lg).2.2.2) (q0 := 0) rfl rfl w480 w479 w481 w482 w328 rfl rfl ⟨⟨by decide, by decide⟩, rfl⟩ ⟨(Nat.le_of_ble_eq_true rfl), (Nat.le_of_ble_eq_true rfl)⟩ rfl hl.1 rfl (Nat.le_of_ble_eq_true rfl) d_M_called_167 ⟨(Nat.le_of_ble_eq_true rfl), (Nat.le_of_ble_eq_true rfl)⟩) hP hD hS hA (fun r61 u62 H locs hp9 hP hD hS => ?_)
                        obtain ⟨y63, h9u⟩ : ∃ z9, z9 = u62 := ⟨_, rfl⟩
                        subst h9u
                        have hP : va_P D vwCl (MW dA h ad y63) H := hP
                        have hD : va_D A (MW dA h ad y63) := hD
                        obtain ⟨hp9, f_e_64⟩ := hp9
                        replace hp9 : bI (y59.nx).1 = r61 := Eq.symm hp9
                        subst hp9
                        exact rfZ hx hb hr (bI_nar ((y59.nx).1)) hlk hS y63 (by rw [c1, m1b, c4_1 g50 f_e_49, c5_y g51 g52 f_e_60]; exact ⟨rfl, f_e_64⟩) hP hD (Nat.le_of_ble_eq_true rfl) (Nat.le_of_ble_eq_true rfl) d_M_called_170
                    · have g51 := g51
                      refine lv_aload_n hx hb d_M_called_143 rfl (lv_at hl 3 rfl) ?_
                      refine lv_iconst (v := 2) hx hb d_M_called_144 (by decide) ?_
                      refine lv_aload_n hx hb d_M_called_145 rfl (lv_at hl 3 rfl) ?_
                      refine gF (v := .int (nI y48.frm)) hx hb hown hE hK hP 0 rfl rfl layM 45 (by decide) w464 rfl d_M_called_146 ?_
                      refine jfI (rnV (As := [.int 2, .int (nI y48.frm)]) (rest := []) hx hb hml hown hE hK (hN _ _ hS) hP hD (k_flaw_0 l D dA H.size h ad y48 2 (nI y48.frm) lg.2.2.2) (q0 := 0) rfl rfl w431 w430 w432 w433 w328 rfl rfl ⟨⟨by decide, by decide⟩, rfl⟩ ⟨(Nat.le_of_ble_eq_true rfl), (Nat.le_of_ble_eq_true rfl)⟩ rfl hl.1 rfl (Nat.le_of_ble_eq_true rfl) d_M_called_149 ⟨(Nat.le_of_ble_eq_true rfl), (Nat.le_of_ble_eq_true rfl)⟩) hP hD hS hA (fun r65 u66 H locs hp9 hP hD hS => ?_)
                      have hP : va_P D vwCl (MW dA h ad (MS.s_faultPlace (MS.s_faultCode y48 2) (nI y48.frm))) H := hP
                      have hD : va_D A (MW dA h ad (MS.s_faultPlace (MS.s_faultCode y48 2) (nI y48.frm))) := hD
                      replace hp9 : bI false = r65 := Eq.symm hp9
                      subst hp9
                      exact rfZ hx hb hr (bI_nar false) hlk hS (MS.s_faultPlace (MS.s_faultCode y48 2) (nI y48.frm)) (by rw [c1, m1b, c4_1 g50 f_e_49, c5_x g51]; exact ⟨rfl, rfl⟩) hP hD (Nat.le_of_ble_eq_true rfl) (Nat.le_of_ble_eq_true rfl) d_M_called_152
                  · have g50 := bI_0 g50
                    refine lv_iconst (v := 0) hx hb d_M_called_132 (by decide) ?_
                    exact rfZ hx hb hr (bI_nar false) hlk hS y48 (by rw [c1, m1b, c4_0 g50]; exact ⟨rfl, f_e_49⟩) hP hD (Nat.le_of_ble_eq_true rfl) (Nat.le_of_ble_eq_true rfl) d_M_called_133
                · have g45 := bI_n0 g45
                  have m1b : yv.cl2 wh = MS.cl3 (MS.mlF w ym) wh yz.too := m1.trans (if_pos g45)
                  have m6b := m6 g45
                  have m2t := m2.2.2.1
                  refine lv_aload_n hx hb d_M_called_86 rfl (lv_at hl 3 rfl) ?_
                  refine jfI (rnV (As := []) (rest := []) hx hb hml hown hE hK (hN _ _ hS) hP hD (k_match l D dA H.size h ad ym m2) (q0 := 0) rfl rfl w1031 w1030 w1032 w1033 w328 rfl rfl ⟨⟨by decide, by decide⟩, rfl⟩ ⟨(Nat.le_of_ble_eq_true rfl), (Nat.le_of_ble_eq_true rfl)⟩ rfl hl.1 rfl (Nat.le_of_ble_eq_true rfl) d_M_called_87 ⟨(Nat.le_of_ble_eq_true rfl), (Nat.le_of_ble_eq_true rfl)⟩) hP hD hS hA (fun r67 u68 H locs hp9 hP hD hS => ?_)
                  obtain ⟨y69, h9u⟩ : ∃ z9, z9 = u68 := ⟨_, rfl⟩
                  subst h9u
                  have hP : va_P D vwCl (MW dA h ad y69) H := hP
                  have hD : va_D A (MW dA h ad y69) := hD
                  obtain ⟨hp9, f_e_70⟩ := hp9
                  replace hp9 : bI (ym.mcF).1 = r67 := Eq.symm hp9
                  subst hp9
                  refine lv_if_ne hx hb d_M_called_90 (tgt := 95) rfl (fun g71 => ?_) (fun g71 => ?_)
                  · have g71 := bI_n0 g71
                    have bm : byteF ym.tape := by rw [tk_f m4 MS.tape rfl]; exact c8
                    have me := mc_in bm m2 m3 (show ym.mcF = (true, y69) from Prod.ext g71 f_e_70.symm)
                    have be : byteF y69.tape := by rw [me.2.2.1.1]; exact bm
                    have ml := me.2.2.2.2.1
                    refine lv_aload_n hx hb d_M_called_95 rfl (lv_at hl 3 rfl) ?_
                    refine gF (v := .int y69.kind) hx hb hown hE hK hP 0 rfl rfl layM 44 (by decide) w469 rfl d_M_called_96 ?_
                    refine lv_bipush (v := 44) hx hb d_M_called_99 (by decide) ?_
                    refine lv_icmp_ne hx hb d_M_called_101 (tgt := 108) rfl (fun g72 => ?_) (fun g72 => ?_)
                    · have g72 := g72
                      refine lv_iconst (v := 0) hx hb d_M_called_108 (by decide) ?_
                      refine lv_istore_n hx hb d_M_called_109 rfl hl (by decide) rfl (fun ls hl => ?_)
                      have hl : lv_has ls 4 [(3, .int 0), (2, .int (nI yz.too)), (1, .int (nI wh)), (0, .ref h)] := hl
                      refine lv_iload_n hx hb d_M_called_110 rfl (lv_at hl 0 rfl) ?_
                      refine lv_if_eq hx hb d_M_called_111 (tgt := 82) rfl (fun _ => ?_) (fun h9 => absurd (by decide) h9)
                      exact ih82 _ (by rw [← hk9, if_pos g45]; first | (rw [if_pos rfl]; omega) | (rw [if_neg (by decide)]; omega)) y69 false (w - 1) (m1b.trans (ml_c2 (ml_e (by omega) g71 f_e_70 g72))) me.1 me.2.1 (tk_tr m4 me.2.2.2.1) (fun o9 => m5 ((okA_t (sT_tk m4)).mpr (me.2.2.2.2.2 ((okA_t (sT_tk m4)).mp o9)))) (fun z9 => Bool.noConfusion z9) rfl H _ ls hP hD hS (lv_sub hl [0, 1, 2, 3] rfl)
                    · have g72 := g72
                      refine lv_iconst (v := 1) hx hb d_M_called_104 (by decide) ?_
                      refine lv_goto hx hb d_M_called_105 (tgt := 109) rfl ?_
                      refine lv_istore_n hx hb d_M_called_109 rfl hl (by decide) rfl (fun ls hl => ?_)
                      have hl : lv_has ls 4 [(3, .int 1), (2, .int (nI yz.too)), (1, .int (nI wh)), (0, .ref h)] := hl
                      refine lv_iload_n hx hb d_M_called_110 rfl (lv_at hl 0 rfl) ?_
                      refine lv_if_eq hx hb d_M_called_111 (tgt := 82) rfl (fun h9 => absurd h9 (by decide)) (fun _ => ?_)
                      refine lv_aload_n hx hb d_M_called_114 rfl (lv_at hl 3 rfl) ?_
                      refine jfI (rnV (As := []) (rest := []) hx hb hml hown hE hK (hN _ _ hS) hP hD (k_next l D dA H.size h ad y69 me.1.1 me.1.2.2.1 me.1.2.2.2) (q0 := 0) rfl rfl w480 w479 w481 w482 w328 rfl rfl ⟨⟨by decide, by decide⟩, rfl⟩ ⟨(Nat.le_of_ble_eq_true rfl), (Nat.le_of_ble_eq_true rfl)⟩ rfl hl.1 rfl (Nat.le_of_ble_eq_true rfl) d_M_called_115 ⟨(Nat.le_of_ble_eq_true rfl), (Nat.le_of_ble_eq_true rfl)⟩) hP hD hS hA (fun r73 u74 H locs hp9 hP hD hS => ?_)
                      obtain ⟨y75, h9u⟩ : ∃ z9, z9 = u74 := ⟨_, rfl⟩
                      subst h9u
                      have hP : va_P D vwCl (MW dA h ad y75) H := hP
                      have hD : va_D A (MW dA h ad y75) := hD
                      obtain ⟨hp9, f_e_76⟩ := hp9
                      replace hp9 : bI (y69.nx).1 = r73 := Eq.symm hp9
                      subst hp9
                      refine lv_if_ne hx hb d_M_called_118 (tgt := 82) rfl (fun g77 => ?_) (fun g77 => ?_)
                      · have g77 := bI_n0 g77
                        exact ih82 _ (by rw [← hk9, if_pos g45]; first | (rw [if_pos rfl]; omega) | (rw [if_neg (by decide)]; omega)) y75 true (w - 1) (m1b.trans (ml_c1 (ml_m (by omega) g71 f_e_70 g72 g77 f_e_76))) (by rw [f_e_76]; exact (nx_in me.1 g77).1) (by rw [f_e_76]; exact (nx_isT g77).1) (tk_tr m4 (tk_tr me.2.2.2.1 (by rw [f_e_76]; exact tk_nx _))) (fun o9 => m5 ((okA_t (sT_tk m4)).mpr (me.2.2.2.2.2 ((okA_t (sT_tk m4)).mp ((okA_t (sT_tk (tk_tr m4 me.2.2.2.1))).mpr (okA_44 be me.2.1 g72 g77 f_e_76 ((okA_t (sT_tk (tk_tr m4 me.2.2.2.1))).mp o9))))))) (fun _ => by have a9 := (nx_in me.1 g77).2.1; have b9 : y75.frm ≤ y75.too := (by rw [f_e_76]; exact (nx_in me.1 g77).1 : y75.lx).2.1; rw [← f_e_76] at a9; have d9 : y75.length = ym.length := (by rw [f_e_76]; exact (nx_sT _).2.trans me.2.2.1.2); omega) rfl H _ ls hP hD hS (lv_sub hl [0, 1, 2, 3] rfl)
                      · have g77 := bI_0 g77
                        refine lv_iconst (v := 0) hx hb d_M_called_121 (by decide) ?_
                        exact rfZ hx hb hr (bI_nar false) hlk hS y75 (by rw [c1, m1b, ml_n (by omega) g71 f_e_70 g72 g77]; exact ⟨rfl, f_e_76⟩) hP hD (Nat.le_of_ble_eq_true rfl) (Nat.le_of_ble_eq_true rfl) d_M_called_122
                  · have g71 := bI_0 g71
                    refine lv_iconst (v := 0) hx hb d_M_called_93 (by decide) ?_
                    exact rfZ hx hb hr (bI_nar false) hlk hS y69 (by rw [c1, m1b, ml_0 (by omega) g71]; exact ⟨rfl, f_e_70⟩) hP hD (Nat.le_of_ble_eq_true rfl) (Nat.le_of_ble_eq_true rfl) d_M_called_94
            exact L82 _ y8 true (y8.length + 1) ((c2_m d1 yze g10 f_e_9 g11).trans (if_pos rfl).symm) lu tu ku ou (fun _ => by omega) rfl H _ ls hP hD hS (lv_sub hl [0, 1, 2, 3] rfl)
        · have g10 := bI_0 g10
          refine lv_iconst (v := 0) hx hb d_M_called_65 (by decide) ?_
          exact rfZ hx hb hr (bI_nar false) hlk hS y8 (by rw [c1, c2_1 d1 yze g10]; exact ⟨rfl, f_e_9⟩) hP hD (Nat.le_of_ble_eq_true rfl) (Nat.le_of_ble_eq_true rfl) d_M_called_66
      refine lv_bipush (v := 40) hx hb d_M_called_41 (by decide) ?_
      refine jfI (rnV (As := [.int 40]) (rest := []) hx hb hml hown hE hK (hN _ _ hS) hP hD (k_need l D dA H.size h ad yv 40 c2) (q0 := 0) rfl rfl w1023 w1022 w1024 w1025 w328 rfl rfl ⟨⟨by decide, by decide⟩, rfl⟩ ⟨(Nat.le_of_ble_eq_true rfl), (Nat.le_of_ble_eq_true rfl)⟩ rfl hl.1 rfl (Nat.le_of_ble_eq_true rfl) d_M_called_43 ⟨(Nat.le_of_ble_eq_true rfl), (Nat.le_of_ble_eq_true rfl)⟩) hP hD hS hA (fun r78 u79 H locs hp9 hP hD hS => ?_)
      obtain ⟨y80, h9u⟩ : ∃ z9, z9 = u79 := ⟨_, rfl⟩
      subst h9u
      have hP : va_P D vwCl (MW dA h ad y80) H := hP
      have hD : va_D A (MW dA h ad y80) := hD
      obtain ⟨hp9, f_e_81⟩ := hp9
      replace hp9 : bI (yv.ndF 40).1 = r78 := Eq.symm hp9
      subst hp9
      refine lv_if_ne hx hb d_M_called_46 (tgt := 51) rfl (fun g82 => ?_) (fun g82 => ?_)
      · have g82 := bI_n0 g82
        exact J51 y80 g82 f_e_81 H _ ls hP hD hS (lv_sub hl [0, 1] rfl)
      · have g82 := bI_0 g82
        refine lv_iconst (v := 0) hx hb d_M_called_49 (by decide) ?_
        exact rfZ hx hb hr (bI_nar false) hlk hS y80 (by rw [c1, c2_0 g82]; exact ⟨rfl, f_e_81⟩) hP hD (Nat.le_of_ble_eq_true rfl) (Nat.le_of_ble_eq_true rfl) d_M_called_50
    have l1 : y3.lx := by rw [f_e_4]; exact (nx_in (show x.cl0.lx from hlx) g5).1
    have T1 : x.cl0.tk y3 := by rw [f_e_4]; exact tk_nx _
    have p1 : y3.pile = x.pile := tk_f T1 MS.pile rfl
    have p2 : y3.works = x.works := tk_f T1 MS.works rfl
    have p3 : x.works = true → y3.rkc := fun z9 => rkc_tk T1 (hwk z9)
    have p4 : byteF y3.tape := by rw [tk_f T1 MS.tape rfl]; exact hby
    have n0 : y3.tableNames x.pile = 0 := (tk_tn T1 _).trans (va_us _ _ _)
    have n1 : y3.nmT x.pile := fun k hk => absurd hk (by rw [n0]; exact Nat.not_lt_zero k)
    refine lv_aload_n hx hb d_M_called_17 rfl (lv_at hl 0 rfl) ?_
    refine lv_bipush (v := 98) hx hb d_M_called_18 (by decide) ?_
    refine lv_bipush (v := 121) hx hb d_M_called_20 (by decide) ?_
    refine lv_bipush (v := 32) hx hb d_M_called_22 (by decide) ?_
    refine lv_bipush (v := 32) hx hb d_M_called_24 (by decide) ?_
    refine lv_iconst (v := 2) hx hb d_M_called_26 (by decide) ?_
    refine jfI (rnV (As := [.int 98, .int 121, .int 32, .int 32, .int 2]) (rest := []) hx hb hml hown hE hK (hN _ _ hS) hP hD (k_isName l D dA H.size h ad y3 98 121 32 32 2 l1.1 l1.2.1 (Nat.le_trans l1.2.2.1 (Nat.le_succ_of_le l1.1)) (show 2 ≤ 4 from by omega)) (q0 := 0) rfl rfl w1019 w1018 w1020 w1021 w328 rfl rfl ⟨⟨by decide, by decide⟩, rfl⟩ ⟨(Nat.le_of_ble_eq_true rfl), (Nat.le_of_ble_eq_true rfl)⟩ rfl hl.1 rfl (Nat.le_of_ble_eq_true rfl) d_M_called_27 ⟨(Nat.le_of_ble_eq_true rfl), (Nat.le_of_ble_eq_true rfl)⟩) hP hD hS hA (fun r83 u84 H locs hp9 hP hD hS => ?_)
    have hP : va_P D vwCl (MW dA h ad y3) H := hP
    have hD : va_D A (MW dA h ad y3) := hD
    replace hp9 : bI (y3.nmB 98 121 32 32 2) = r83 := Eq.symm hp9
    subst hp9
    refine lv_if_eq hx hb d_M_called_30 (tgt := 40) rfl (fun g85 => ?_) (fun g85 => ?_)
    · have g85 := bI_0 g85
      exact J40 y3 (cl_n g5 f_e_4 g85) l1 n1 (by rw [n0]; decide) p1 p2 p3 p4 H _ ls hP hD hS (lv_sub hl [1, 0] rfl)
    · have g85 := bI_n0 g85
      refine lv_aload_n hx hb d_M_called_33 rfl (lv_at hl 0 rfl) ?_
      refine jfI (rnV (As := []) (rest := []) hx hb hml hown hE hK (hN _ _ hS) hP hD (k_by l D dA H.size h ad y3 l1 (by rw [p1]; exact hpl) (by rw [p1]; exact n0)) (q0 := 0) rfl rfl w1035 w1034 w1036 w1037 w328 rfl rfl ⟨⟨by decide, by decide⟩, rfl⟩ ⟨(Nat.le_of_ble_eq_true rfl), (Nat.le_of_ble_eq_true rfl)⟩ rfl hl.1 rfl (Nat.le_of_ble_eq_true rfl) d_M_called_34 ⟨(Nat.le_of_ble_eq_true rfl), (Nat.le_of_ble_eq_true rfl)⟩) hP hD hS hA (fun r86 u87 H locs hp9 hP hD hS => ?_)
      obtain ⟨y88, h9u⟩ : ∃ z9, z9 = u87 := ⟨_, rfl⟩
      subst h9u
      have hP : va_P D vwCl (MW dA h ad y88) H := hP
      have hD : va_D A (MW dA h ad y88) := hD
      obtain ⟨hp9, f_e_89⟩ := hp9
      replace hp9 : bI (y3.byF).1 = r86 := Eq.symm hp9
      subst hp9
      refine lv_if_eq hx hb d_M_called_37 (tgt := 49) rfl (fun g90 => ?_) (fun g90 => ?_)
      · have g90 := bI_0 g90
        refine lv_iconst (v := 0) hx hb d_M_called_49 (by decide) ?_
        exact rfZ hx hb hr (bI_nar false) hlk hS y88 (by rw [cl_b g5 f_e_4 g85 g90]; exact ⟨rfl, f_e_89⟩) hP hD (Nat.le_of_ble_eq_true rfl) (Nat.le_of_ble_eq_true rfl) d_M_called_50
      · have g90 := bI_n0 g90
        exact J40 y88 (cl_y g5 f_e_4 g85 g90 f_e_89) (by_in l1 (by rw [p1]; exact n0) (Prod.ext g90 f_e_89.symm)).1 (by rw [← p1]; exact (by_in l1 (by rw [p1]; exact n0) (Prod.ext g90 f_e_89.symm)).2.2.1) (by rw [← p1]; exact (by_in l1 (by rw [p1]; exact n0) (Prod.ext g90 f_e_89.symm)).2.2.2.1) ((nk_f (by_in l1 (by rw [p1]; exact n0) (Prod.ext g90 f_e_89.symm)).2.2.2.2.1 MS.pile rfl).trans p1) ((nk_f (by_in l1 (by rw [p1]; exact n0) (Prod.ext g90 f_e_89.symm)).2.2.2.2.1 MS.works rfl).trans p2) (fun z9 => rkc_nk (by_in l1 (by rw [p1]; exact n0) (Prod.ext g90 f_e_89.symm)).2.2.2.2.1 (p3 z9)) (by rw [nk_f (by_in l1 (by rw [p1]; exact n0) (Prod.ext g90 f_e_89.symm)).2.2.2.2.1 MS.tape rfl]; exact p4) H _ ls hP hD hS (lv_sub hl [1, 0] rfl)
