theorem asgS {s : State} {C : String} : ∀ comp c0 : ClassId, s.vm.findClass C = some comp → s.vm.findClass C = some c0 → s.vm.assignable c0 comp = true := by
  intro comp c0 h1 h2
  rw [h1] at h2
  cases h2
  exact Vm.assignable_self _ _
theorem d_H_takeParcels_0 : decode prog_9_method_3_code 0 = .ok (.aload_n 1, 1) := by decide +kernel
theorem d_H_takeParcels_1 : decode prog_9_method_3_code 1 = .ok (.getfield 11, 3) := by decide +kernel
theorem d_H_takeParcels_4 : decode prog_9_method_3_code 4 = .ok (.iconst 0, 1) := by decide +kernel
theorem d_H_takeParcels_5 : decode prog_9_method_3_code 5 = .ok (.aload_n 0, 1) := by decide +kernel
theorem d_H_takeParcels_6 : decode prog_9_method_3_code 6 = .ok (.getfield 11, 3) := by decide +kernel
theorem d_H_takeParcels_9 : decode prog_9_method_3_code 9 = .ok (.iconst 0, 1) := by decide +kernel
theorem d_H_takeParcels_10 : decode prog_9_method_3_code 10 = .ok (.aload_n 1, 1) := by decide +kernel
theorem d_H_takeParcels_11 : decode prog_9_method_3_code 11 = .ok (.getfield 34, 3) := by decide +kernel
theorem d_H_takeParcels_14 : decode prog_9_method_3_code 14 = .ok (.invokestatic 51, 3) := by decide +kernel
theorem d_H_takeParcels_17 : decode prog_9_method_3_code 17 = .ok (.aload_n 0, 1) := by decide +kernel
theorem d_H_takeParcels_18 : decode prog_9_method_3_code 18 = .ok (.aload_n 1, 1) := by decide +kernel
theorem d_H_takeParcels_19 : decode prog_9_method_3_code 19 = .ok (.getfield 34, 3) := by decide +kernel
theorem d_H_takeParcels_22 : decode prog_9_method_3_code 22 = .ok (.putfield 34, 3) := by decide +kernel
theorem d_H_takeParcels_25 : decode prog_9_method_3_code 25 = .ok (.aload_n 1, 1) := by decide +kernel
theorem d_H_takeParcels_26 : decode prog_9_method_3_code 26 = .ok (.getfield 17, 3) := by decide +kernel
theorem d_H_takeParcels_29 : decode prog_9_method_3_code 29 = .ok (.iconst 0, 1) := by decide +kernel
theorem d_H_takeParcels_30 : decode prog_9_method_3_code 30 = .ok (.aload_n 0, 1) := by decide +kernel
theorem d_H_takeParcels_31 : decode prog_9_method_3_code 31 = .ok (.getfield 17, 3) := by decide +kernel
theorem d_H_takeParcels_34 : decode prog_9_method_3_code 34 = .ok (.iconst 0, 1) := by decide +kernel
theorem d_H_takeParcels_35 : decode prog_9_method_3_code 35 = .ok (.aload_n 1, 1) := by decide +kernel
theorem d_H_takeParcels_36 : decode prog_9_method_3_code 36 = .ok (.getfield 38, 3) := by decide +kernel
theorem d_H_takeParcels_39 : decode prog_9_method_3_code 39 = .ok (.invokestatic 51, 3) := by decide +kernel
theorem d_H_takeParcels_42 : decode prog_9_method_3_code 42 = .ok (.aload_n 1, 1) := by decide +kernel
theorem d_H_takeParcels_43 : decode prog_9_method_3_code 43 = .ok (.getfield 21, 3) := by decide +kernel
theorem d_H_takeParcels_46 : decode prog_9_method_3_code 46 = .ok (.iconst 0, 1) := by decide +kernel
theorem d_H_takeParcels_47 : decode prog_9_method_3_code 47 = .ok (.aload_n 0, 1) := by decide +kernel
theorem d_H_takeParcels_48 : decode prog_9_method_3_code 48 = .ok (.getfield 21, 3) := by decide +kernel
theorem d_H_takeParcels_51 : decode prog_9_method_3_code 51 = .ok (.iconst 0, 1) := by decide +kernel
theorem d_H_takeParcels_52 : decode prog_9_method_3_code 52 = .ok (.aload_n 1, 1) := by decide +kernel
theorem d_H_takeParcels_53 : decode prog_9_method_3_code 53 = .ok (.getfield 38, 3) := by decide +kernel
theorem d_H_takeParcels_56 : decode prog_9_method_3_code 56 = .ok (.invokestatic 51, 3) := by decide +kernel
theorem d_H_takeParcels_59 : decode prog_9_method_3_code 59 = .ok (.aload_n 1, 1) := by decide +kernel
theorem d_H_takeParcels_60 : decode prog_9_method_3_code 60 = .ok (.getfield 25, 3) := by decide +kernel
theorem d_H_takeParcels_63 : decode prog_9_method_3_code 63 = .ok (.iconst 0, 1) := by decide +kernel
theorem d_H_takeParcels_64 : decode prog_9_method_3_code 64 = .ok (.aload_n 0, 1) := by decide +kernel
theorem d_H_takeParcels_65 : decode prog_9_method_3_code 65 = .ok (.getfield 25, 3) := by decide +kernel
theorem d_H_takeParcels_68 : decode prog_9_method_3_code 68 = .ok (.iconst 0, 1) := by decide +kernel
theorem d_H_takeParcels_69 : decode prog_9_method_3_code 69 = .ok (.aload_n 1, 1) := by decide +kernel
theorem d_H_takeParcels_70 : decode prog_9_method_3_code 70 = .ok (.getfield 38, 3) := by decide +kernel
theorem d_H_takeParcels_73 : decode prog_9_method_3_code 73 = .ok (.invokestatic 51, 3) := by decide +kernel
theorem d_H_takeParcels_76 : decode prog_9_method_3_code 76 = .ok (.aload_n 0, 1) := by decide +kernel
theorem d_H_takeParcels_77 : decode prog_9_method_3_code 77 = .ok (.aload_n 1, 1) := by decide +kernel
theorem d_H_takeParcels_78 : decode prog_9_method_3_code 78 = .ok (.getfield 38, 3) := by decide +kernel
theorem d_H_takeParcels_81 : decode prog_9_method_3_code 81 = .ok (.putfield 38, 3) := by decide +kernel
theorem d_H_takeParcels_84 : decode prog_9_method_3_code 84 = .ok (.aload_n 0, 1) := by decide +kernel
theorem d_H_takeParcels_85 : decode prog_9_method_3_code 85 = .ok (.aload_n 1, 1) := by decide +kernel
theorem d_H_takeParcels_86 : decode prog_9_method_3_code 86 = .ok (.getfield 41, 3) := by decide +kernel
theorem d_H_takeParcels_89 : decode prog_9_method_3_code 89 = .ok (.putfield 41, 3) := by decide +kernel
theorem d_H_takeParcels_92 : decode prog_9_method_3_code 92 = .ok (.return_, 1) := by decide +kernel
theorem w719 : Cond.methodLink "SeriesVault$Shelf" 51 ⟨"java/lang/System", "arraycopy", "(Ljava/lang/Object;ILjava/lang/Object;II)V"⟩ ∈ aW := aw_of (tb_6 (List.mem_of_getElem? (i := 110) rfl)) rfl
theorem w720 : Cond.native ⟨"java/lang/System", "arraycopy", "(Ljava/lang/Object;ILjava/lang/Object;II)V"⟩ ∈ aW := aw_of (tb_2 (List.mem_of_getElem? (i := 146) rfl)) rfl
theorem w721 : Cond.static ⟨"java/lang/System", "arraycopy", "(Ljava/lang/Object;ILjava/lang/Object;II)V"⟩ ∈ aW := aw_of (tb_2 (List.mem_of_getElem? (i := 145) rfl)) rfl
theorem w722 : Cond.initialized "java/lang/System" ∈ aW := aw_of (tb_1 (List.mem_of_getElem? (i := 15) rfl)) rfl
set_option maxHeartbeats 4000000 in
set_option maxRecDepth 100000 in
theorem c_H_takeParcels_0 (l : Launch) (D : va_G) (dA : Nat → ClassId) (sz : Nat) (a : Nat) (fs : List Value) (b : Nat) (gs : List Value) (hz : Int64) (x0 : Nat) (x1 : Nat) (x2 : Nat) (x3 : Nat) (gx0 : Nat → Option Nat) (gx1 : Nat → Int32) (gx2 : Nat → Int64) (gx3 : Nat → Int64) (y0 : Nat) (y1 : Nat) (y2 : Nat) (y3 : Nat) (gy0 : Nat → Option Nat) (gy1 : Nat → Int32) (gy2 : Nat → Int64) (gy3 : Nat → Int64) (h_fs_parcels : fs[0]? = some (.ref x0)) (h_fs_scarOwners : fs[2]? = some (.ref x1)) (h_fs_scarFroms : fs[3]? = some (.ref x2)) (h_fs_scarTos : fs[4]? = some (.ref x3)) (hl_fs : fs.length = 11) (h_gs_parcels : gs[0]? = some (.ref y0)) (h_gs_parcelCount : gs[1]? = some (.int 0)) (h_gs_scarOwners : gs[2]? = some (.ref y1)) (h_gs_scarFroms : gs[3]? = some (.ref y2)) (h_gs_scarTos : gs[4]? = some (.ref y3)) (h_gs_scarCount : gs[6]? = some (.int 0)) (h_gs_horizon : gs[7]? = some (.long hz)) (hl_gs : gs.length = 11) : Met l ⟨"SeriesVault$Shelf", "takeParcels", "(LSeriesVault$Shelf;)V"⟩ [Cond.code ⟨"SeriesVault$Shelf", "takeParcels", "(LSeriesVault$Shelf;)V"⟩ prog_9_method_3_code 2 none] { frames := 1, cells := 0, slots := 0, locals := 40 } (pC D dA [.ref a, .ref b] [(a, .inr (3, fs)), (b, .inr (3, gs)), (x0, .inl (dA 4, 32, .inr (.inr (.inr (.inr gx0))))), (x1, .inl (dA 1, 64, .inl gx1)), (x2, .inl (dA 2, 64, .inr (.inl gx2))), (x3, .inl (dA 2, 64, .inr (.inl gx3))), (y0, .inl (dA 4, 32, .inr (.inr (.inr (.inr gy0))))), (y1, .inl (dA 1, 64, .inl gy1)), (y2, .inl (dA 2, 64, .inr (.inl gy2))), (y3, .inl (dA 2, 64, .inr (.inl gy3)))] sz) (va_Qv (fun (_ : Unit) => True) (fun (u9 : Unit) t9 => bW D (va_A [(a, .inr (3, fs)), (b, .inr (3, gs)), (x0, .inl (dA 4, 32, .inr (.inr (.inr (.inr gx0))))), (x1, .inl (dA 1, 64, .inl gx1)), (x2, .inl (dA 2, 64, .inr (.inl gx2))), (x3, .inl (dA 2, 64, .inr (.inl gx3))), (y0, .inl (dA 4, 32, .inr (.inr (.inr (.inr gy0))))), (y1, .inl (dA 1, 64, .inl gy1)), (y2, .inl (dA 2, 64, .inr (.inl gy2))), (y3, .inl (dA 2, 64, .inr (.inl gy3)))] sz) [(a, .inr (3, (((fs.set 1 (.int 0)).set 6 (.int 0)).set 7 (.long hz)))), (b, .inr (3, gs)), (x0, .inl (dA 4, 32, .inr (.inr (.inr (.inr (va_cpy gy0 gx0 0 0 0)))))), (x1, .inl (dA 1, 64, .inl (va_cpy gy1 gx1 0 0 0))), (x2, .inl (dA 2, 64, .inr (.inl (va_cpy gy2 gx2 0 0 0)))), (x3, .inl (dA 2, 64, .inr (.inl (va_cpy gy3 gx3 0 0 0)))), (y0, .inl (dA 4, 32, .inr (.inr (.inr (.inr gy0))))), (y1, .inl (dA 1, 64, .inl gy1)), (y2, .inl (dA 2, 64, .inr (.inl gy2))), (y3, .inl (dA 2, 64, .inr (.inl gy3)))] t9) (va_A [(a, .inr (3, fs)), (b, .inr (3, gs)), (x0, .inl (dA 4, 32, .inr (.inr (.inr (.inr gx0))))), (x1, .inl (dA 1, 64, .inl gx1)), (x2, .inl (dA 2, 64, .inr (.inl gx2))), (x3, .inl (dA 2, 64, .inr (.inl gx3))), (y0, .inl (dA 4, 32, .inr (.inr (.inr (.inr gy0))))), (y1, .inl (dA 1, 64, .inl gy1)), (y2, .inl (dA 2, 64, .inr (.inl gy2))), (y3, .inl (dA 2, 64, .inr (.inl gy3)))] sz)) 0 0 (va_A [(a, .inr (3, fs)), (b, .inr (3, gs)), (x0, .inl (dA 4, 32, .inr (.inr (.inr (.inr gx0))))), (x1, .inl (dA 1, 64, .inl gx1)), (x2, .inl (dA 2, 64, .inr (.inl gx2))), (x3, .inl (dA 2, 64, .inr (.inl gx3))), (y0, .inl (dA 4, 32, .inr (.inr (.inr (.inr gy0))))), (y1, .inl (dA 1, 64, .inl gy1)), (y2, .inl (dA 2, 64, .inr (.inl gy2))), (y3, .inl (dA 2, 64, .inr (.inl gy3)))] sz) := by
  refine mkC (y := ⟨"SeriesVault$Shelf", "takeParcels", "(LSeriesVault$Shelf;)V"⟩) (cc := prog_9_method_3_code) (maxL := 2) (av := [.ref a, .ref b]) (ws := [(a, .inr (3, fs)), (b, .inr (3, gs)), (x0, .inl (dA 4, 32, .inr (.inr (.inr (.inr gx0))))), (x1, .inl (dA 1, 64, .inl gx1)), (x2, .inl (dA 2, 64, .inr (.inl gx2))), (x3, .inl (dA 2, 64, .inr (.inl gx3))), (y0, .inl (dA 4, 32, .inr (.inr (.inr (.inr gy0))))), (y1, .inl (dA 1, 64, .inl gy1)), (y2, .inl (dA 2, 64, .inr (.inl gy2))), (y3, .inl (dA 2, 64, .inr (.inl gy3)))]) (sz := sz) (Qc := fun A => va_Qv (fun (_ : Unit) => True) (fun (u9 : Unit) t9 => bW D A [(a, .inr (3, (((fs.set 1 (.int 0)).set 6 (.int 0)).set 7 (.long hz)))), (b, .inr (3, gs)), (x0, .inl (dA 4, 32, .inr (.inr (.inr (.inr (va_cpy gy0 gx0 0 0 0)))))), (x1, .inl (dA 1, 64, .inl (va_cpy gy1 gx1 0 0 0))), (x2, .inl (dA 2, 64, .inr (.inl (va_cpy gy2 gx2 0 0 0)))), (x3, .inl (dA 2, 64, .inr (.inl (va_cpy gy3 gx3 0 0 0)))), (y0, .inl (dA 4, 32, .inr (.inr (.inr (.inr gy0))))), (y1, .inl (dA 1, 64, .inl gy1)), (y2, .inl (dA 2, 64, .inr (.inl gy2))), (y3, .inl (dA 2, 64, .inr (.inl gy3)))] t9) A) (by decide) (Nat.le_of_ble_eq_true rfl) ?_
  intro A p e s m below meth c ls hsz hB
  obtain ⟨hx, hb, hr, hml, hown, hin, hlk, hE, hK, hP, hD, hS, hA, hN, hl⟩ := hB
  have hown : s.vm.findClass "SeriesVault$Shelf" = some m.cls := hown
  have hin : meth.name = "takeParcels" := hin
  have hl : lv_has ls 2 [(0, .ref a), (1, .ref b)] := hl
  obtain ⟨H, hH⟩ : ∃ z, z = s.heap := ⟨_, rfl⟩
  have hP : va_P D vwCl [(a, .inr (3, fs)), (b, .inr (3, gs)), (x0, .inl (dA 4, 32, .inr (.inr (.inr (.inr gx0))))), (x1, .inl (dA 1, 64, .inl gx1)), (x2, .inl (dA 2, 64, .inr (.inl gx2))), (x3, .inl (dA 2, 64, .inr (.inl gx3))), (y0, .inl (dA 4, 32, .inr (.inr (.inr (.inr gy0))))), (y1, .inl (dA 1, 64, .inl gy1)), (y2, .inl (dA 2, 64, .inr (.inl gy2))), (y3, .inl (dA 2, 64, .inr (.inl gy3)))] H := by rw [hH]; exact hP
  have hS : va_S A s.heap H [] := by rw [hH]; exact hS
  rw [← hH]
  refine lv_aload_n hx hb d_H_takeParcels_0 rfl (lv_at hl 1 rfl) ?_
  refine gF (v := .ref y0) hx hb hown hE hK hP 1 rfl rfl layH 0 (by decide) w199 h_gs_parcels d_H_takeParcels_1 ?_
  refine lv_iconst (v := 0) hx hb d_H_takeParcels_4 (by decide) ?_
  refine lv_aload_n hx hb d_H_takeParcels_5 rfl (lv_at hl 0 rfl) ?_
  refine gF (v := .ref x0) hx hb hown hE hK hP 0 rfl rfl layH 0 (by decide) w199 h_fs_parcels d_H_takeParcels_6 ?_
  refine lv_iconst (v := 0) hx hb d_H_takeParcels_9 (by decide) ?_
  refine lv_aload_n hx hb d_H_takeParcels_10 rfl (lv_at hl 1 rfl) ?_
  refine gF (v := .int 0) hx hb hown hE hK hP 1 rfl rfl layH 1 (by decide) w566 h_gs_parcelCount d_H_takeParcels_11 ?_
  refine va_copyq (C := "SeriesVault$Parcel") hx hb (hml.trans hl.1.symm) hown (hE.t w719 rfl) (hE.t w720 rfl) (hE.t w721 rfl) (hE.t w722 rfl) hK hP hD hS 6 2 4 4 rfl rfl rfl rfl (by decide) (by decide) (by decide) (by decide) (by decide) (fun i hi => absurd hi (Nat.not_lt_zero i)) asgS (Nat.le_of_ble_eq_true rfl) (Nat.le_of_ble_eq_true rfl) d_H_takeParcels_14 (fun H locs hP hD hS => ?_)
  have hP : va_P D vwCl [(a, .inr (3, fs)), (b, .inr (3, gs)), (x0, .inl (dA 4, 32, .inr (.inr (.inr (.inr (va_cpy gy0 gx0 0 0 0)))))), (x1, .inl (dA 1, 64, .inl gx1)), (x2, .inl (dA 2, 64, .inr (.inl gx2))), (x3, .inl (dA 2, 64, .inr (.inl gx3))), (y0, .inl (dA 4, 32, .inr (.inr (.inr (.inr gy0))))), (y1, .inl (dA 1, 64, .inl gy1)), (y2, .inl (dA 2, 64, .inr (.inl gy2))), (y3, .inl (dA 2, 64, .inr (.inl gy3)))] H := hP
  have hD : va_D A [(a, .inr (3, fs)), (b, .inr (3, gs)), (x0, .inl (dA 4, 32, .inr (.inr (.inr (.inr (va_cpy gy0 gx0 0 0 0)))))), (x1, .inl (dA 1, 64, .inl gx1)), (x2, .inl (dA 2, 64, .inr (.inl gx2))), (x3, .inl (dA 2, 64, .inr (.inl gx3))), (y0, .inl (dA 4, 32, .inr (.inr (.inr (.inr gy0))))), (y1, .inl (dA 1, 64, .inl gy1)), (y2, .inl (dA 2, 64, .inr (.inl gy2))), (y3, .inl (dA 2, 64, .inr (.inl gy3)))] := hD
  refine lv_aload_n hx hb d_H_takeParcels_17 rfl (lv_at hl 0 rfl) ?_
  refine lv_aload_n hx hb d_H_takeParcels_18 rfl (lv_at hl 1 rfl) ?_
  refine gF (v := .int 0) hx hb hown hE hK hP 1 rfl rfl layH 1 (by decide) w566 h_gs_parcelCount d_H_takeParcels_19 ?_
  refine pF hx hb hown hE hK hP hD hS 0 rfl rfl layH tyH tokH nmH 1 (by decide) w566 rfl rfl rfl (by simp [hl_fs]) d_H_takeParcels_22 (fun H locs hP hD hS => ?_)
  have hP : va_P D vwCl [(a, .inr (3, (fs.set 1 (.int 0)))), (b, .inr (3, gs)), (x0, .inl (dA 4, 32, .inr (.inr (.inr (.inr (va_cpy gy0 gx0 0 0 0)))))), (x1, .inl (dA 1, 64, .inl gx1)), (x2, .inl (dA 2, 64, .inr (.inl gx2))), (x3, .inl (dA 2, 64, .inr (.inl gx3))), (y0, .inl (dA 4, 32, .inr (.inr (.inr (.inr gy0))))), (y1, .inl (dA 1, 64, .inl gy1)), (y2, .inl (dA 2, 64, .inr (.inl gy2))), (y3, .inl (dA 2, 64, .inr (.inl gy3)))] H := hP
  have hD : va_D A [(a, .inr (3, (fs.set 1 (.int 0)))), (b, .inr (3, gs)), (x0, .inl (dA 4, 32, .inr (.inr (.inr (.inr (va_cpy gy0 gx0 0 0 0)))))), (x1, .inl (dA 1, 64, .inl gx1)), (x2, .inl (dA 2, 64, .inr (.inl gx2))), (x3, .inl (dA 2, 64, .inr (.inl gx3))), (y0, .inl (dA 4, 32, .inr (.inr (.inr (.inr gy0))))), (y1, .inl (dA 1, 64, .inl gy1)), (y2, .inl (dA 2, 64, .inr (.inl gy2))), (y3, .inl (dA 2, 64, .inr (.inl gy3)))] := hD
  refine lv_aload_n hx hb d_H_takeParcels_25 rfl (lv_at hl 1 rfl) ?_
  refine gF (v := .ref y1) hx hb hown hE hK hP 1 rfl rfl layH 2 (by decide) w200 h_gs_scarOwners d_H_takeParcels_26 ?_
  refine lv_iconst (v := 0) hx hb d_H_takeParcels_29 (by decide) ?_
  refine lv_aload_n hx hb d_H_takeParcels_30 rfl (lv_at hl 0 rfl) ?_
  refine gF (v := .ref x1) hx hb hown hE hK hP 0 rfl rfl layH 2 (by decide) w200 (by simp [h_fs_scarOwners]) d_H_takeParcels_31 ?_
  refine lv_iconst (v := 0) hx hb d_H_takeParcels_34 (by decide) ?_
  refine lv_aload_n hx hb d_H_takeParcels_35 rfl (lv_at hl 1 rfl) ?_
  refine gF (v := .int 0) hx hb hown hE hK hP 1 rfl rfl layH 6 (by decide) w567 h_gs_scarCount d_H_takeParcels_36 ?_
  refine va_copyi hx hb (hml.trans hl.1.symm) hown (hE.t w719 rfl) (hE.t w720 rfl) (hE.t w721 rfl) (hE.t w722 rfl) hK hP hD hS 7 3 1 1 rfl rfl rfl rfl rfl (by decide) (by decide) (by decide) (by decide) (by decide) (fun i hi => absurd hi (Nat.not_lt_zero i)) (Nat.le_of_ble_eq_true rfl) (Nat.le_of_ble_eq_true rfl) d_H_takeParcels_39 (fun H locs hP hD hS => ?_)
  have hP : va_P D vwCl [(a, .inr (3, (fs.set 1 (.int 0)))), (b, .inr (3, gs)), (x0, .inl (dA 4, 32, .inr (.inr (.inr (.inr (va_cpy gy0 gx0 0 0 0)))))), (x1, .inl (dA 1, 64, .inl (va_cpy gy1 gx1 0 0 0))), (x2, .inl (dA 2, 64, .inr (.inl gx2))), (x3, .inl (dA 2, 64, .inr (.inl gx3))), (y0, .inl (dA 4, 32, .inr (.inr (.inr (.inr gy0))))), (y1, .inl (dA 1, 64, .inl gy1)), (y2, .inl (dA 2, 64, .inr (.inl gy2))), (y3, .inl (dA 2, 64, .inr (.inl gy3)))] H := hP
  have hD : va_D A [(a, .inr (3, (fs.set 1 (.int 0)))), (b, .inr (3, gs)), (x0, .inl (dA 4, 32, .inr (.inr (.inr (.inr (va_cpy gy0 gx0 0 0 0)))))), (x1, .inl (dA 1, 64, .inl (va_cpy gy1 gx1 0 0 0))), (x2, .inl (dA 2, 64, .inr (.inl gx2))), (x3, .inl (dA 2, 64, .inr (.inl gx3))), (y0, .inl (dA 4, 32, .inr (.inr (.inr (.inr gy0))))), (y1, .inl (dA 1, 64, .inl gy1)), (y2, .inl (dA 2, 64, .inr (.inl gy2))), (y3, .inl (dA 2, 64, .inr (.inl gy3)))] := hD
  refine lv_aload_n hx hb d_H_takeParcels_42 rfl (lv_at hl 1 rfl) ?_
  refine gF (v := .ref y2) hx hb hown hE hK hP 1 rfl rfl layH 3 (by decide) w201 h_gs_scarFroms d_H_takeParcels_43 ?_
  refine lv_iconst (v := 0) hx hb d_H_takeParcels_46 (by decide) ?_
  refine lv_aload_n hx hb d_H_takeParcels_47 rfl (lv_at hl 0 rfl) ?_
  refine gF (v := .ref x2) hx hb hown hE hK hP 0 rfl rfl layH 3 (by decide) w201 (by simp [h_fs_scarFroms]) d_H_takeParcels_48 ?_
  refine lv_iconst (v := 0) hx hb d_H_takeParcels_51 (by decide) ?_
  refine lv_aload_n hx hb d_H_takeParcels_52 rfl (lv_at hl 1 rfl) ?_
  refine gF (v := .int 0) hx hb hown hE hK hP 1 rfl rfl layH 6 (by decide) w567 h_gs_scarCount d_H_takeParcels_53 ?_
  refine va_copyl hx hb (hml.trans hl.1.symm) hown (hE.t w719 rfl) (hE.t w720 rfl) (hE.t w721 rfl) (hE.t w722 rfl) hK hP hD hS 8 4 2 2 rfl rfl rfl rfl rfl (by decide) (by decide) (by decide) (by decide) (by decide) (fun i hi => absurd hi (Nat.not_lt_zero i)) (Nat.le_of_ble_eq_true rfl) (Nat.le_of_ble_eq_true rfl) d_H_takeParcels_56 (fun H locs hP hD hS => ?_)
  have hP : va_P D vwCl [(a, .inr (3, (fs.set 1 (.int 0)))), (b, .inr (3, gs)), (x0, .inl (dA 4, 32, .inr (.inr (.inr (.inr (va_cpy gy0 gx0 0 0 0)))))), (x1, .inl (dA 1, 64, .inl (va_cpy gy1 gx1 0 0 0))), (x2, .inl (dA 2, 64, .inr (.inl (va_cpy gy2 gx2 0 0 0)))), (x3, .inl (dA 2, 64, .inr (.inl gx3))), (y0, .inl (dA 4, 32, .inr (.inr (.inr (.inr gy0))))), (y1, .inl (dA 1, 64, .inl gy1)), (y2, .inl (dA 2, 64, .inr (.inl gy2))), (y3, .inl (dA 2, 64, .inr (.inl gy3)))] H := hP
  have hD : va_D A [(a, .inr (3, (fs.set 1 (.int 0)))), (b, .inr (3, gs)), (x0, .inl (dA 4, 32, .inr (.inr (.inr (.inr (va_cpy gy0 gx0 0 0 0)))))), (x1, .inl (dA 1, 64, .inl (va_cpy gy1 gx1 0 0 0))), (x2, .inl (dA 2, 64, .inr (.inl (va_cpy gy2 gx2 0 0 0)))), (x3, .inl (dA 2, 64, .inr (.inl gx3))), (y0, .inl (dA 4, 32, .inr (.inr (.inr (.inr gy0))))), (y1, .inl (dA 1, 64, .inl gy1)), (y2, .inl (dA 2, 64, .inr (.inl gy2))), (y3, .inl (dA 2, 64, .inr (.inl gy3)))] := hD
  refine lv_aload_n hx hb d_H_takeParcels_59 rfl (lv_at hl 1 rfl) ?_
  refine gF (v := .ref y3) hx hb hown hE hK hP 1 rfl rfl layH 4 (by decide) w202 h_gs_scarTos d_H_takeParcels_60 ?_
  refine lv_iconst (v := 0) hx hb d_H_takeParcels_63 (by decide) ?_
  refine lv_aload_n hx hb d_H_takeParcels_64 rfl (lv_at hl 0 rfl) ?_
  refine gF (v := .ref x3) hx hb hown hE hK hP 0 rfl rfl layH 4 (by decide) w202 (by simp [h_fs_scarTos]) d_H_takeParcels_65 ?_
  refine lv_iconst (v := 0) hx hb d_H_takeParcels_68 (by decide) ?_
  refine lv_aload_n hx hb d_H_takeParcels_69 rfl (lv_at hl 1 rfl) ?_
  refine gF (v := .int 0) hx hb hown hE hK hP 1 rfl rfl layH 6 (by decide) w567 h_gs_scarCount d_H_takeParcels_70 ?_
  refine va_copyl hx hb (hml.trans hl.1.symm) hown (hE.t w719 rfl) (hE.t w720 rfl) (hE.t w721 rfl) (hE.t w722 rfl) hK hP hD hS 9 5 2 2 rfl rfl rfl rfl rfl (by decide) (by decide) (by decide) (by decide) (by decide) (fun i hi => absurd hi (Nat.not_lt_zero i)) (Nat.le_of_ble_eq_true rfl) (Nat.le_of_ble_eq_true rfl) d_H_takeParcels_73 (fun H locs hP hD hS => ?_)
  have hP : va_P D vwCl [(a, .inr (3, (fs.set 1 (.int 0)))), (b, .inr (3, gs)), (x0, .inl (dA 4, 32, .inr (.inr (.inr (.inr (va_cpy gy0 gx0 0 0 0)))))), (x1, .inl (dA 1, 64, .inl (va_cpy gy1 gx1 0 0 0))), (x2, .inl (dA 2, 64, .inr (.inl (va_cpy gy2 gx2 0 0 0)))), (x3, .inl (dA 2, 64, .inr (.inl (va_cpy gy3 gx3 0 0 0)))), (y0, .inl (dA 4, 32, .inr (.inr (.inr (.inr gy0))))), (y1, .inl (dA 1, 64, .inl gy1)), (y2, .inl (dA 2, 64, .inr (.inl gy2))), (y3, .inl (dA 2, 64, .inr (.inl gy3)))] H := hP
  have hD : va_D A [(a, .inr (3, (fs.set 1 (.int 0)))), (b, .inr (3, gs)), (x0, .inl (dA 4, 32, .inr (.inr (.inr (.inr (va_cpy gy0 gx0 0 0 0)))))), (x1, .inl (dA 1, 64, .inl (va_cpy gy1 gx1 0 0 0))), (x2, .inl (dA 2, 64, .inr (.inl (va_cpy gy2 gx2 0 0 0)))), (x3, .inl (dA 2, 64, .inr (.inl (va_cpy gy3 gx3 0 0 0)))), (y0, .inl (dA 4, 32, .inr (.inr (.inr (.inr gy0))))), (y1, .inl (dA 1, 64, .inl gy1)), (y2, .inl (dA 2, 64, .inr (.inl gy2))), (y3, .inl (dA 2, 64, .inr (.inl gy3)))] := hD
  refine lv_aload_n hx hb d_H_takeParcels_76 rfl (lv_at hl 0 rfl) ?_
  refine lv_aload_n hx hb d_H_takeParcels_77 rfl (lv_at hl 1 rfl) ?_
  refine gF (v := .int 0) hx hb hown hE hK hP 1 rfl rfl layH 6 (by decide) w567 h_gs_scarCount d_H_takeParcels_78 ?_
  refine pF hx hb hown hE hK hP hD hS 0 rfl rfl layH tyH tokH nmH 6 (by decide) w567 rfl rfl rfl (by simp [hl_fs]) d_H_takeParcels_81 (fun H locs hP hD hS => ?_)
  have hP : va_P D vwCl [(a, .inr (3, ((fs.set 1 (.int 0)).set 6 (.int 0)))), (b, .inr (3, gs)), (x0, .inl (dA 4, 32, .inr (.inr (.inr (.inr (va_cpy gy0 gx0 0 0 0)))))), (x1, .inl (dA 1, 64, .inl (va_cpy gy1 gx1 0 0 0))), (x2, .inl (dA 2, 64, .inr (.inl (va_cpy gy2 gx2 0 0 0)))), (x3, .inl (dA 2, 64, .inr (.inl (va_cpy gy3 gx3 0 0 0)))), (y0, .inl (dA 4, 32, .inr (.inr (.inr (.inr gy0))))), (y1, .inl (dA 1, 64, .inl gy1)), (y2, .inl (dA 2, 64, .inr (.inl gy2))), (y3, .inl (dA 2, 64, .inr (.inl gy3)))] H := hP
  have hD : va_D A [(a, .inr (3, ((fs.set 1 (.int 0)).set 6 (.int 0)))), (b, .inr (3, gs)), (x0, .inl (dA 4, 32, .inr (.inr (.inr (.inr (va_cpy gy0 gx0 0 0 0)))))), (x1, .inl (dA 1, 64, .inl (va_cpy gy1 gx1 0 0 0))), (x2, .inl (dA 2, 64, .inr (.inl (va_cpy gy2 gx2 0 0 0)))), (x3, .inl (dA 2, 64, .inr (.inl (va_cpy gy3 gx3 0 0 0)))), (y0, .inl (dA 4, 32, .inr (.inr (.inr (.inr gy0))))), (y1, .inl (dA 1, 64, .inl gy1)), (y2, .inl (dA 2, 64, .inr (.inl gy2))), (y3, .inl (dA 2, 64, .inr (.inl gy3)))] := hD
  refine lv_aload_n hx hb d_H_takeParcels_84 rfl (lv_at hl 0 rfl) ?_
  refine lv_aload_n hx hb d_H_takeParcels_85 rfl (lv_at hl 1 rfl) ?_
  refine gF (v := .long hz) hx hb hown hE hK hP 1 rfl rfl layH 7 (by decide) w568 h_gs_horizon d_H_takeParcels_86 ?_
  refine pF hx hb hown hE hK hP hD hS 0 rfl rfl layH tyH tokH nmH 7 (by decide) w568 rfl rfl rfl (by simp [hl_fs]) d_H_takeParcels_89 (fun H locs hP hD hS => ?_)
  have hP : va_P D vwCl [(a, .inr (3, (((fs.set 1 (.int 0)).set 6 (.int 0)).set 7 (.long hz)))), (b, .inr (3, gs)), (x0, .inl (dA 4, 32, .inr (.inr (.inr (.inr (va_cpy gy0 gx0 0 0 0)))))), (x1, .inl (dA 1, 64, .inl (va_cpy gy1 gx1 0 0 0))), (x2, .inl (dA 2, 64, .inr (.inl (va_cpy gy2 gx2 0 0 0)))), (x3, .inl (dA 2, 64, .inr (.inl (va_cpy gy3 gx3 0 0 0)))), (y0, .inl (dA 4, 32, .inr (.inr (.inr (.inr gy0))))), (y1, .inl (dA 1, 64, .inl gy1)), (y2, .inl (dA 2, 64, .inr (.inl gy2))), (y3, .inl (dA 2, 64, .inr (.inl gy3)))] H := hP
  have hD : va_D A [(a, .inr (3, (((fs.set 1 (.int 0)).set 6 (.int 0)).set 7 (.long hz)))), (b, .inr (3, gs)), (x0, .inl (dA 4, 32, .inr (.inr (.inr (.inr (va_cpy gy0 gx0 0 0 0)))))), (x1, .inl (dA 1, 64, .inl (va_cpy gy1 gx1 0 0 0))), (x2, .inl (dA 2, 64, .inr (.inl (va_cpy gy2 gx2 0 0 0)))), (x3, .inl (dA 2, 64, .inr (.inl (va_cpy gy3 gx3 0 0 0)))), (y0, .inl (dA 4, 32, .inr (.inr (.inr (.inr gy0))))), (y1, .inl (dA 1, 64, .inl gy1)), (y2, .inl (dA 2, 64, .inr (.inl gy2))), (y3, .inl (dA 2, 64, .inr (.inl gy3)))] := hD
  exact rtV hx hb hr hlk hP hD hS () trivial [0, 1, 2, 3, 4, 5, 6, 7, 8, 9] rfl rfl (by decide) (Nat.le_of_ble_eq_true rfl) (Nat.le_of_ble_eq_true rfl) d_H_takeParcels_92
