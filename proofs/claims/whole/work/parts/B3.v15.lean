section QS
variable {p : Program} {l : Launch} {e : Env} {R : Room} {s : State} {m : MethodId} {args : Array Value} {below : List Frame} {meth : Method} {c : Code} {H : Heap} {locs : List Loc} {cells slots : Nat} {Q : State → Prop}
variable {D : va_G} {dA : Nat → ClassId} {A : Nat → Prop} {cc : ByteArray} {pc : Nat} {ls : Array Slot} {rest st0 : List Value} {ws : va_W} {a : Nat}
theorem nqst (hx : p.tables.exec = Jvm.exec) (hb : c.code = cc) (hK : va_K D vwCl (arT dA) s) (hP : va_P D vwCl ws H) (hD : va_D A ws) (hS : va_S A s.heap H locs) (q0 t0 qk ci : Nat) {cA : ClassId} {r : vw_C} {n v : Nat} {vs : List Value} {f : Nat → Option Nat} (ha : ws[q0]? = some (a, .inl (cA, n, .inr (.inr (.inr (.inr f)))))) (ht : (arT dA)[t0]? = some (cA, .object r.1)) (hv : ws[qk]? = some (v, .inr (ci, vs))) (hc : vwCl[ci]? = some r) (j : Nat) (hj : j < n) (hn : n < 2 ^ 31) (hdg : decode cc pc = .ok (.aastore, 1))
    (kk : ∀ (H1 : Heap) (locs1 : List Loc), va_P D vwCl (ws.set q0 (a, .inl (cA, n, .inr (.inr (.inr (.inr (va_up f j (some v)))))))) H1 → va_D A (ws.set q0 (a, .inl (cA, n, .inr (.inr (.inr (.inr (va_up f j (some v)))))))) → va_S A s.heap H1 locs1 → W p l e R s m args below meth c H1 locs1 cells slots Q (F0 m (pc + 1) ls rest)) : W p l e R s m args below meth c H locs cells slots Q (F0 m pc ls (.ref v :: .int (nI j) :: .ref a :: rest)) :=
  va_astq hx hb hK hP hD hS q0 t0 qk ci ha ht hv hc (vp_in_nI hj hn) hdg (by rw [nI_clamp (by omega)]; exact kk)
theorem ncpyq (hexec : p.tables.exec = Jvm.exec) (hb : c.code = cc) (hml : c.maxLocals = ls.size) {own : String} {index : Nat} (hown : s.vm.findClass own = some m.cls) (hlink : (Cond.methodLink own index arraycopyName).before args s = true) (hnat : (Cond.native arraycopyName).before args s = true) (hstat : (Cond.static arraycopyName).before args s = true) (hini : (Cond.initialized "java/lang/System").before args s = true)
    (hK : va_K D vwCl (arT dA) s) (hP : va_P D vwCl ws H) (hD : va_D A ws) (hS : va_S A s.heap H locs) (q0 q1 t0 ci : Nat) {a0 : Nat} {c0 : ClassId} {n0 n1 : Nat} {f g : Nat → Option Nat} {r : vw_C} (ha0 : ws[q0]? = some (a0, .inl (c0, n0, .inr (.inr (.inr (.inr f)))))) (ha1 : ws[q1]? = some (a, .inl (c0, n1, .inr (.inr (.inr (.inr g)))))) (ht0 : (arT dA)[t0]? = some (c0, .object r.1)) (hc : vwCl[ci]? = some r)
    (sp dp n : Nat) (h1 : sp < 2 ^ 31) (h2 : dp < 2 ^ 31) (h3 : n < 2 ^ 31) (h4 : sp + n ≤ n0) (h5 : dp + n ≤ n1) (hel : ∀ i : Nat, i < n → ∀ y : Nat, f (sp + i) = some y → ∃ vs : List Value, (y, .inr (ci, vs)) ∈ ws)
    (hframes : 1 ≤ R.frames) (hlocals : (rest.map fun v => v.category).sum + (nativeFrameWords "java/lang/System" "arraycopy" 5 + 11) ≤ R.locals) (hdg : decode cc pc = .ok (.invokestatic index, 3))
    (kk : ∀ (H1 : Heap) (locs1 : List Loc), va_P D vwCl (ws.set q1 (a, .inl (c0, n1, .inr (.inr (.inr (.inr (va_cpy f g sp dp n))))))) H1 → va_D A (ws.set q1 (a, .inl (c0, n1, .inr (.inr (.inr (.inr (va_cpy f g sp dp n))))))) → va_S A s.heap H1 locs1 → W p l e R s m args below meth c H1 locs1 cells slots Q (F0 m (pc + 3) ls rest)) : W p l e R s m args below meth c H locs cells slots Q (F0 m pc ls (.int (nI n) :: .int (nI dp) :: .ref a :: .int (nI sp) :: .ref a0 :: rest)) := by
  have hcls := (hK.1 ci r hc).2
  refine va_copyq (C := r.1) hexec hb hml hown hlink hnat hstat hini hK hP hD hS q0 q1 t0 t0 ha0 ha1 ht0 ht0 (nI_pos h1) (nI_pos h2) (nI_pos h3) ?_ ?_ ?_ ?_ hframes hlocals hdg ?_
  · rw [nI_clamp h1, nI_clamp h3]; exact h4
  · rw [nI_clamp h2, nI_clamp h3]; exact h5
  · rw [nI_clamp h1, nI_clamp h3]
    intro i hi y hy
    obtain ⟨vs, hm⟩ := hel i hi y hy
    obtain ⟨k, hk⟩ := List.getElem?_of_mem hm
    obtain ⟨r', hr', cellV, g1, g2, g3, -⟩ := hP k _ hk
    exact ⟨cellV, g1, by rw [g3]; rfl, by rw [g2]; exact hcls.1⟩
  · intro comp c9 e1 e2
    cases hcls.1.symm.trans e1
    cases hcls.1.symm.trans e2
    exact va_assign hcls
  · rw [nI_clamp h1, nI_clamp h2, nI_clamp h3]; exact kk
end QS
theorem plm {dA : Nat → ClassId} {h : Nat} {ad : Nat → Nat} {x : VS} {c : Nat × va_E} (hm : c ∈ x.pl) : c ∈ VW dA h ad x := List.mem_append_right _ (List.mem_append_right _ hm)
theorem psel {dA : Nat → ClassId} {nP : Nat → Option Nat} {n : Nat} {pl ws : va_W} {PS : Nat → PT} (hps : psOk dA nP n pl PS) (hsub : ∀ c, c ∈ pl → c ∈ ws) : ∀ i : Nat, i < n → ∀ y : Nat, nP (0 + i) = some y → ∃ vs : List Value, (y, .inr (12, vs)) ∈ ws := by
  intro i hi y hy
  obtain ⟨pp, ke, hpp, -⟩ := hps i hi
  rw [Nat.zero_add] at hy
  cases ke.symm.trans hy
  obtain ⟨po, pt, pv, m1, -⟩ := hpp
  exact ⟨_, hsub _ m1⟩
/-- n places moved down by d, to st on -/
def sfT {α : Type} (g : Nat → α) (st d n : Nat) : Nat → α := fun z => if st ≤ z ∧ z < st + n then g (z + d) else g z
theorem sfT_0 {α : Type} (g : Nat → α) (st d : Nat) : sfT g st d 0 = g := by
  funext z
  unfold sfT
  rw [if_neg (by omega)]
theorem sfT_at {α : Type} (g : Nat → α) {st d n z : Nat} (h : st + n ≤ z) : sfT g st d n z = g z := by
  unfold sfT
  rw [if_neg (by omega)]
theorem sfT_s {α : Type} (g : Nat → α) {st d n : Nat} {v : α} (hv : v = g (st + n + d)) : sfT g st d (n + 1) = va_up (sfT g st d n) (st + n) v := by
  funext z
  show (if st ≤ z ∧ z < st + (n + 1) then g (z + d) else g z) = if z = st + n then v else (if st ≤ z ∧ z < st + n then g (z + d) else g z)
  by_cases h1 : z = st + n
  · subst h1
    rw [if_pos (by omega), if_pos rfl, hv]
  · rw [if_neg h1]
    by_cases h2 : st ≤ z ∧ z < st + n
    · rw [if_pos (by omega), if_pos h2]
    · rw [if_neg (by omega), if_neg h2]
/-- the scar of a point of a parcel; how many points of a parcel each scar has -/
def VS.scI (x : VS) (P : PT) (i : Nat) : Option Nat := x.sc1 (P.o i) (P.t i)
def spK (sc : Nat → Option Nat) (g : Nat → Nat) : Nat → Nat → Nat
  | 0 => g
  | i + 1 => match sc i with
    | none => spK sc g i
    | some q => va_up (spK sc g i) q (spK sc g i q + 1)
theorem spK_n {sc : Nat → Option Nat} {g : Nat → Nat} {i : Nat} (h : sc i = none) : spK sc g (i + 1) = spK sc g i := by
  show (match sc i with | none => spK sc g i | some q => va_up (spK sc g i) q (spK sc g i q + 1)) = _
  rw [h]
theorem spK_s {sc : Nat → Option Nat} {g : Nat → Nat} {i q : Nat} (h : sc i = some q) : spK sc g (i + 1) = va_up (spK sc g i) q (spK sc g i q + 1) := by
  show (match sc i with | none => spK sc g i | some q => va_up (spK sc g i) q (spK sc g i q + 1)) = _
  rw [h]
theorem spK_le (sc : Nat → Option Nat) (g : Nat → Nat) (q : Nat) : ∀ i, spK sc g i q ≤ g q + i
  | 0 => Nat.le_refl _
  | i + 1 => by
    have ih := spK_le sc g q i
    cases h : sc i with
    | none => rw [spK_n h]; omega
    | some k =>
      rw [spK_s h]
      unfold va_up
      split
      · next e => subst e; omega
      · omega
def VS.scP (x : VS) (PS : Nat → PT) (g : Nat → Nat) : Nat → Nat → Nat
  | 0 => g
  | k + 1 => spK (x.scI (PS k)) (x.scP PS g k) (PS k).n
theorem scP_le {x : VS} {PS : Nat → PT} {g : Nat → Nat} {q : Nat} : ∀ {n : Nat}, (∀ k : Nat, k < n → (PS k).n ≤ 12000) → x.scP PS g n q ≤ g q + 12000 * n
  | 0, _ => Nat.le_refl _
  | n + 1, h => by
    have h1 := scP_le (x := x) (g := g) (q := q) (n := n) (fun k hk => h k (by omega))
    have h2 := spK_le (x.scI (PS n)) (x.scP PS g n) q (PS n).n
    have h3 := h n (by omega)
    show spK (x.scI (PS n)) (x.scP PS g n) (PS n).n q ≤ _
    omega
theorem filG_z {α : Type} (f : Nat → α) (v : α) : ∀ {n q : Nat}, q < n → filG f 0 v n q = v
  | n + 1, q, h => by
    show va_up (filG f 0 v n) (0 + n) v q = v
    unfold va_up
    split
    · rfl
    · exact filG_z f v (by omega)
def VS.esG (x : VS) (PS : Nat → PT) : Nat → Nat := x.scP PS (filG x.nsP 0 0 64) x.npc
def VS.esC (x : VS) (PS : Nat → PT) (q : Nat) : Bool := decide (0 < x.esG PS q)
def mhC (PS : Nat → PT) (a : Int64) (k : Nat) : Bool := !decide ((PS k).nw < a)
theorem esG_lt {x : VS} {PS : Nat → PT} {dA : Nat → ClassId} {q : Nat} (hps : psOk dA x.nP x.npc x.pl PS) (hpn : x.npc ≤ 32) (hq : q < 64) : x.esG PS q < 2 ^ 31 := by
  have h1 := scP_le (x := x) (PS := PS) (g := filG x.nsP 0 0 64) (q := q) (n := x.npc) (fun k hk => (hps k hk).choose_spec.2.2.1)
  rw [filG_z _ _ hq] at h1
  unfold VS.esG
  omega
theorem d_H_addParcel_0 : decode prog_9_method_7_code 0 = .ok (.aload_n 1, 1) := by decide +kernel
theorem d_H_addParcel_1 : decode prog_9_method_7_code 1 = .ok (.ifnull 32, 3) := by decide +kernel
theorem d_H_addParcel_33 : decode prog_9_method_7_code 33 = .ok (.return_, 1) := by decide +kernel
set_option maxHeartbeats 4000000 in
set_option maxRecDepth 100000 in
theorem v_addParcel_0 (l : Launch) (D : va_G) (dA : Nat → ClassId) (sz : Nat) (h : Nat) (ad : Nat → Nat) (x : VS) : Met l ⟨"SeriesVault$Shelf", "addParcel", "(LSeriesVault$Parcel;)V"⟩ [Cond.code ⟨"SeriesVault$Shelf", "addParcel", "(LSeriesVault$Parcel;)V"⟩ prog_9_method_7_code 2 none] { frames := 1, cells := 0, slots := 0, locals := 0 } (pC D dA [.ref (ad 3), .null] (VW dA h ad x) sz) (va_Qv (fun (u9 : Unit) => True) (fun (u9 : Unit) t9 => bW D (va_A (VW dA h ad x) sz) (VW dA h ad x) t9) (va_A (VW dA h ad x) sz)) 0 0 (va_A (VW dA h ad x) sz) := by
  refine mkC (y := ⟨"SeriesVault$Shelf", "addParcel", "(LSeriesVault$Parcel;)V"⟩) (cc := prog_9_method_7_code) (maxL := 2) (av := [.ref (ad 3), .null]) (ws := VW dA h ad x) (sz := sz) (Qc := fun A => va_Qv (fun (u9 : Unit) => True) (fun (u9 : Unit) t9 => bW D A (VW dA h ad x) t9) A) (by decide) (Nat.le_of_ble_eq_true rfl) ?_
  intro A p e s m below meth c ls hsz hB
  obtain ⟨hx, hb, hr, hml, hown, hin, hlk, hE, hK, hP, hD, hS, hA, hN, hl⟩ := hB
  have hown : s.vm.findClass "SeriesVault$Shelf" = some m.cls := hown
  have hl : lv_has ls 2 [(0, .ref (ad 3)), (1, .null)] := hl
  obtain ⟨H, hH⟩ : ∃ z, z = s.heap := ⟨_, rfl⟩
  have hP : va_P D vwCl (VW dA h ad x) H := by rw [hH]; exact hP
  have hS : va_S A s.heap H [] := by rw [hH]; exact hS
  rw [← hH]
  refine lv_aload_nN hx hb d_H_addParcel_0 rfl (lv_at hl 1 rfl) ?_
  refine lv_ifnullN hx hb d_H_addParcel_1 (tgt := 33) rfl ?_
  exact rfV hx hb hr hlk hS () trivial hP hD (Nat.le_of_ble_eq_true rfl) (Nat.le_of_ble_eq_true rfl) d_H_addParcel_33
theorem d_H_addParcel_4 : decode prog_9_method_7_code 4 = .ok (.aload_n 0, 1) := by decide +kernel
theorem d_H_addParcel_5 : decode prog_9_method_7_code 5 = .ok (.getfield 34, 3) := by decide +kernel
theorem d_H_addParcel_8 : decode prog_9_method_7_code 8 = .ok (.bipush 32, 2) := by decide +kernel
theorem d_H_addParcel_10 : decode prog_9_method_7_code 10 = .ok (.if_icmp .ge 23, 3) := by decide +kernel
theorem d_H_addParcel_13 : decode prog_9_method_7_code 13 = .ok (.aload_n 0, 1) := by decide +kernel
theorem d_H_addParcel_14 : decode prog_9_method_7_code 14 = .ok (.getfield 11, 3) := by decide +kernel
theorem d_H_addParcel_17 : decode prog_9_method_7_code 17 = .ok (.aload_n 0, 1) := by decide +kernel
theorem d_H_addParcel_18 : decode prog_9_method_7_code 18 = .ok (.getfield 34, 3) := by decide +kernel
theorem d_H_addParcel_21 : decode prog_9_method_7_code 21 = .ok (.aload_n 1, 1) := by decide +kernel
theorem d_H_addParcel_22 : decode prog_9_method_7_code 22 = .ok (.aastore, 1) := by decide +kernel
theorem d_H_addParcel_23 : decode prog_9_method_7_code 23 = .ok (.aload_n 0, 1) := by decide +kernel
theorem d_H_addParcel_24 : decode prog_9_method_7_code 24 = .ok (.dup, 1) := by decide +kernel
theorem d_H_addParcel_25 : decode prog_9_method_7_code 25 = .ok (.getfield 34, 3) := by decide +kernel
theorem d_H_addParcel_28 : decode prog_9_method_7_code 28 = .ok (.iconst 1, 1) := by decide +kernel
theorem d_H_addParcel_29 : decode prog_9_method_7_code 29 = .ok (.iadd, 1) := by decide +kernel
theorem d_H_addParcel_30 : decode prog_9_method_7_code 30 = .ok (.putfield 34, 3) := by decide +kernel
set_option maxHeartbeats 4000000 in
set_option maxRecDepth 100000 in
theorem v_addParcel_1 (l : Launch) (D : va_G) (dA : Nat → ClassId) (sz : Nat) (h : Nat) (ad : Nat → Nat) (x : VS) (pp : Nat) (P : PT) (hpp : isPc dA x.pl pp P) (hpk : pcOk P) (hn : x.npc < 32) : Met l ⟨"SeriesVault$Shelf", "addParcel", "(LSeriesVault$Parcel;)V"⟩ [Cond.code ⟨"SeriesVault$Shelf", "addParcel", "(LSeriesVault$Parcel;)V"⟩ prog_9_method_7_code 2 none] { frames := 1, cells := 0, slots := 0, locals := 0 } (pC D dA [.ref (ad 3), .ref pp] (VW dA h ad x) sz) (va_Qv (fun (u9 : Unit) => True) (fun (u9 : Unit) t9 => bW D (va_A (VW dA h ad x) sz) (VW dA h ad (VS.s_npc (VS.s_nP x (va_up x.nP x.npc (some pp))) (x.npc + 1))) t9) (va_A (VW dA h ad x) sz)) 0 0 (va_A (VW dA h ad x) sz) := by
  refine mkC (y := ⟨"SeriesVault$Shelf", "addParcel", "(LSeriesVault$Parcel;)V"⟩) (cc := prog_9_method_7_code) (maxL := 2) (av := [.ref (ad 3), .ref pp]) (ws := VW dA h ad x) (sz := sz) (Qc := fun A => va_Qv (fun (u9 : Unit) => True) (fun (u9 : Unit) t9 => bW D A (VW dA h ad (VS.s_npc (VS.s_nP x (va_up x.nP x.npc (some pp))) (x.npc + 1))) t9) A) (by decide) (Nat.le_of_ble_eq_true rfl) ?_
  intro A p e s m below meth c ls hsz hB
  obtain ⟨hx, hb, hr, hml, hown, hin, hlk, hE, hK, hP, hD, hS, hA, hN, hl⟩ := hB
  have hown : s.vm.findClass "SeriesVault$Shelf" = some m.cls := hown
  have hl : lv_has ls 2 [(0, .ref (ad 3)), (1, .ref pp)] := hl
  obtain ⟨H, hH⟩ : ∃ z, z = s.heap := ⟨_, rfl⟩
  have hP : va_P D vwCl (VW dA h ad x) H := by rw [hH]; exact hP
  have hS : va_S A s.heap H [] := by rw [hH]; exact hS
  rw [← hH]
  have pk1 := hpk.1
  have pk2 := hpk.2
  have hpp0 := hpp
  obtain ⟨po, pt, pv, m1, m2, m3, m4⟩ := hpp
  refine lv_aload_n hx hb d_H_addParcel_0 rfl (lv_at hl 1 rfl) ?_
  refine lv_ifnull hx hb d_H_addParcel_1 ?_
  refine lv_aload_n hx hb d_H_addParcel_4 rfl (lv_at hl 0 rfl) ?_
  refine gF (v := .int (nI x.npc)) hx hb hown hE hK hP 17 rfl rfl layH 1 (by decide) w566 rfl d_H_addParcel_5 ?_
  refine lv_bipush (v := 32) hx hb d_H_addParcel_8 (by decide) ?_
  refine lv_icmp_ge hx hb d_H_addParcel_10 (tgt := 33) rfl (fun h9 => absurd h9 (mt (nI_leI (a := 32) (b := x.npc) (by omega) (by omega)).mp (Nat.not_le.mpr hn))) (fun _ => ?_)
  refine lv_aload_n hx hb d_H_addParcel_13 rfl (lv_at hl 0 rfl) ?_
  refine gF (v := .ref (ad 4)) hx hb hown hE hK hP 17 rfl rfl layH 0 (by decide) w199 rfl d_H_addParcel_14 ?_
  refine lv_aload_n hx hb d_H_addParcel_17 rfl (lv_at hl 0 rfl) ?_
  refine gF (v := .int (nI x.npc)) hx hb hown hE hK hP 17 rfl rfl layH 1 (by decide) w566 rfl d_H_addParcel_18 ?_
  refine lv_aload_n hx hb d_H_addParcel_21 rfl (lv_at hl 1 rfl) ?_
  obtain ⟨qp1, ep2⟩ := plv (dA := dA) (h := h) (ad := ad) (x := x) m1
  refine nqst (r := ("SeriesVault$Parcel", TC, 8)) (f := x.nP) (n := 32) hx hb hK hP hD hS (18) 4 qp1 12 rfl rfl ep2 rfl (x.npc) (by omega) (by decide) d_H_addParcel_22 (fun H locs hP hD hS => ?_)
  have hP : va_P D vwCl (VW dA h ad (VS.s_nP x (va_up x.nP x.npc (some pp)))) H := hP
  have hD : va_D A (VW dA h ad (VS.s_nP x (va_up x.nP x.npc (some pp)))) := hD
  refine lv_aload_n hx hb d_H_addParcel_23 rfl (lv_at hl 0 rfl) ?_
  refine lv_dup hx hb d_H_addParcel_24 rfl ?_
  refine gF (v := .int (nI x.npc)) hx hb hown hE hK hP 17 rfl rfl layH 1 (by decide) w566 rfl d_H_addParcel_25 ?_
  refine lv_iconst (v := 1) hx hb d_H_addParcel_28 (by decide) ?_
  refine lv_iadd hx hb d_H_addParcel_29 (tpi (y := nI (x.npc + 1)) (nI_add (x.npc) (1)) ?_)
  refine pF (v := .int (nI (x.npc + 1))) hx hb hown hE hK hP hD hS 17 rfl rfl layH tyH tokH nmH 1 (by decide) w566 rfl rfl rfl (Nat.le_of_ble_eq_true rfl) d_H_addParcel_30 (fun H locs hP hD hS => ?_)
  have hP : va_P D vwCl (VW dA h ad (VS.s_npc (VS.s_nP x (va_up x.nP x.npc (some pp))) (x.npc + 1))) H := hP
  have hD : va_D A (VW dA h ad (VS.s_npc (VS.s_nP x (va_up x.nP x.npc (some pp))) (x.npc + 1))) := hD
  exact rfV hx hb hr hlk hS () trivial hP hD (Nat.le_of_ble_eq_true rfl) (Nat.le_of_ble_eq_true rfl) d_H_addParcel_33
set_option maxHeartbeats 4000000 in
set_option maxRecDepth 100000 in
theorem v_takeParcels_s (l : Launch) (D : va_G) (dA : Nat → ClassId) (sz : Nat) (h : Nat) (ad : Nat → Nat) (x : VS) (PS : Nat → PT) (hps : psOk dA x.nP x.npc x.pl PS) (h1 : x.npc ≤ 32) (h2 : x.nsc ≤ 64) : Met l ⟨"SeriesVault$Shelf", "takeParcels", "(LSeriesVault$Shelf;)V"⟩ [Cond.code ⟨"SeriesVault$Shelf", "takeParcels", "(LSeriesVault$Shelf;)V"⟩ prog_9_method_3_code 2 none] { frames := 1, cells := 0, slots := 0, locals := 40 } (pC D dA [.ref (ad 10), .ref (ad 3)] (VW dA h ad x) sz) (va_Qv (fun (u9 : Unit) => True) (fun (u9 : Unit) t9 => bW D (va_A (VW dA h ad x) sz) (VW dA h ad (VS.s_shor (VS.s_ssc (VS.s_ssT (VS.s_ssF (VS.s_ssO (VS.s_spc (VS.s_sP x (va_cpy x.nP x.sP 0 0 x.npc)) x.npc) (va_cpy x.nsO x.ssO 0 0 x.nsc)) (va_cpy x.nsF x.ssF 0 0 x.nsc)) (va_cpy x.nsT x.ssT 0 0 x.nsc)) x.nsc) x.nhor)) t9) (va_A (VW dA h ad x) sz)) 0 0 (va_A (VW dA h ad x) sz) := by
  refine mkC (y := ⟨"SeriesVault$Shelf", "takeParcels", "(LSeriesVault$Shelf;)V"⟩) (cc := prog_9_method_3_code) (maxL := 2) (av := [.ref (ad 10), .ref (ad 3)]) (ws := VW dA h ad x) (sz := sz) (Qc := fun A => va_Qv (fun (u9 : Unit) => True) (fun (u9 : Unit) t9 => bW D A (VW dA h ad (VS.s_shor (VS.s_ssc (VS.s_ssT (VS.s_ssF (VS.s_ssO (VS.s_spc (VS.s_sP x (va_cpy x.nP x.sP 0 0 x.npc)) x.npc) (va_cpy x.nsO x.ssO 0 0 x.nsc)) (va_cpy x.nsF x.ssF 0 0 x.nsc)) (va_cpy x.nsT x.ssT 0 0 x.nsc)) x.nsc) x.nhor)) t9) A) (by decide) (Nat.le_of_ble_eq_true rfl) ?_
  intro A p e s m below meth c ls hsz hB
  obtain ⟨hx, hb, hr, hml, hown, hin, hlk, hE, hK, hP, hD, hS, hA, hN, hl⟩ := hB
  have hown : s.vm.findClass "SeriesVault$Shelf" = some m.cls := hown
  have hl : lv_has ls 2 [(0, .ref (ad 10)), (1, .ref (ad 3))] := hl
  obtain ⟨H, hH⟩ : ∃ z, z = s.heap := ⟨_, rfl⟩
  have hP : va_P D vwCl (VW dA h ad x) H := by rw [hH]; exact hP
  have hS : va_S A s.heap H [] := by rw [hH]; exact hS
  rw [← hH]
  refine lv_aload_n hx hb d_H_takeParcels_0 rfl (lv_at hl 1 rfl) ?_
  refine gF (v := .ref (ad 4)) hx hb hown hE hK hP 17 rfl rfl layH 0 (by decide) w199 rfl d_H_takeParcels_1 ?_
  refine lv_iconst (v := 0) hx hb d_H_takeParcels_4 (by decide) ?_
  refine lv_aload_n hx hb d_H_takeParcels_5 rfl (lv_at hl 0 rfl) ?_
  refine gF (v := .ref (ad 11)) hx hb hown hE hK hP 24 rfl rfl layH 0 (by decide) w199 rfl d_H_takeParcels_6 ?_
  refine lv_iconst (v := 0) hx hb d_H_takeParcels_9 (by decide) ?_
  refine lv_aload_n hx hb d_H_takeParcels_10 rfl (lv_at hl 1 rfl) ?_
  refine gF (v := .int (nI x.npc)) hx hb hown hE hK hP 17 rfl rfl layH 1 (by decide) w566 rfl d_H_takeParcels_11 ?_
  refine ncpyq (r := ("SeriesVault$Parcel", TC, 8)) (f := x.nP) (g := x.sP) (n0 := 32) (n1 := 32) hx hb (hml.trans hl.1.symm) hown (hE.t w719 rfl) (hE.t w720 rfl) (hE.t w721 rfl) (hE.t w722 rfl) hK hP hD hS (18) (25) 4 12 rfl rfl rfl rfl (0) (0) (x.npc) (by omega) (by omega) (by omega) (by omega) (by omega) (psel hps (fun _ hm => plm hm)) (Nat.le_of_ble_eq_true rfl) (Nat.le_of_ble_eq_true rfl) d_H_takeParcels_14 (fun H locs hP hD hS => ?_)
  have hP : va_P D vwCl (VW dA h ad (VS.s_sP x (va_cpy x.nP x.sP 0 0 x.npc))) H := hP
  have hD : va_D A (VW dA h ad (VS.s_sP x (va_cpy x.nP x.sP 0 0 x.npc))) := hD
  refine lv_aload_n hx hb d_H_takeParcels_17 rfl (lv_at hl 0 rfl) ?_
  refine lv_aload_n hx hb d_H_takeParcels_18 rfl (lv_at hl 1 rfl) ?_
  refine gF (v := .int (nI x.npc)) hx hb hown hE hK hP 17 rfl rfl layH 1 (by decide) w566 rfl d_H_takeParcels_19 ?_
  refine pF (v := .int (nI x.npc)) hx hb hown hE hK hP hD hS 24 rfl rfl layH tyH tokH nmH 1 (by decide) w566 rfl rfl rfl (Nat.le_of_ble_eq_true rfl) d_H_takeParcels_22 (fun H locs hP hD hS => ?_)
  have hP : va_P D vwCl (VW dA h ad (VS.s_spc (VS.s_sP x (va_cpy x.nP x.sP 0 0 x.npc)) x.npc)) H := hP
  have hD : va_D A (VW dA h ad (VS.s_spc (VS.s_sP x (va_cpy x.nP x.sP 0 0 x.npc)) x.npc)) := hD
  refine lv_aload_n hx hb d_H_takeParcels_25 rfl (lv_at hl 1 rfl) ?_
  refine gF (v := .ref (ad 5)) hx hb hown hE hK hP 17 rfl rfl layH 2 (by decide) w200 rfl d_H_takeParcels_26 ?_
  refine lv_iconst (v := 0) hx hb d_H_takeParcels_29 (by decide) ?_
  refine lv_aload_n hx hb d_H_takeParcels_30 rfl (lv_at hl 0 rfl) ?_
  refine gF (v := .ref (ad 12)) hx hb hown hE hK hP 24 rfl rfl layH 2 (by decide) w200 rfl d_H_takeParcels_31 ?_
  refine lv_iconst (v := 0) hx hb d_H_takeParcels_34 (by decide) ?_
  refine lv_aload_n hx hb d_H_takeParcels_35 rfl (lv_at hl 1 rfl) ?_
  refine gF (v := .int (nI x.nsc)) hx hb hown hE hK hP 17 rfl rfl layH 6 (by decide) w567 rfl d_H_takeParcels_36 ?_
  refine ncpyi (f := (fun z9 => nI (x.nsO z9))) (g := (fun z9 => nI (x.ssO z9))) (n0 := 64) (n1 := 64) hx hb (hml.trans hl.1.symm) hown (hE.t w719 rfl) (hE.t w720 rfl) (hE.t w721 rfl) (hE.t w722 rfl) hK hP hD hS (19) (26) 1 rfl rfl rfl rfl (0) (0) (x.nsc) (by omega) (by omega) (by omega) (by omega) (by omega) (fun _ _ => rfl) (Nat.le_of_ble_eq_true rfl) (Nat.le_of_ble_eq_true rfl) d_H_takeParcels_39 (fun H locs hP hD hS => ?_)
  rw [cpyNI] at hP hD
  have hP : va_P D vwCl (VW dA h ad (VS.s_ssO (VS.s_spc (VS.s_sP x (va_cpy x.nP x.sP 0 0 x.npc)) x.npc) (va_cpy x.nsO x.ssO 0 0 x.nsc))) H := hP
  have hD : va_D A (VW dA h ad (VS.s_ssO (VS.s_spc (VS.s_sP x (va_cpy x.nP x.sP 0 0 x.npc)) x.npc) (va_cpy x.nsO x.ssO 0 0 x.nsc))) := hD
  refine lv_aload_n hx hb d_H_takeParcels_42 rfl (lv_at hl 1 rfl) ?_
  refine gF (v := .ref (ad 6)) hx hb hown hE hK hP 17 rfl rfl layH 3 (by decide) w201 rfl d_H_takeParcels_43 ?_
  refine lv_iconst (v := 0) hx hb d_H_takeParcels_46 (by decide) ?_
  refine lv_aload_n hx hb d_H_takeParcels_47 rfl (lv_at hl 0 rfl) ?_
  refine gF (v := .ref (ad 13)) hx hb hown hE hK hP 24 rfl rfl layH 3 (by decide) w201 rfl d_H_takeParcels_48 ?_
  refine lv_iconst (v := 0) hx hb d_H_takeParcels_51 (by decide) ?_
  refine lv_aload_n hx hb d_H_takeParcels_52 rfl (lv_at hl 1 rfl) ?_
  refine gF (v := .int (nI x.nsc)) hx hb hown hE hK hP 17 rfl rfl layH 6 (by decide) w567 rfl d_H_takeParcels_53 ?_
  refine ncpyl (f := x.nsF) (g := x.ssF) (n0 := 64) (n1 := 64) hx hb (hml.trans hl.1.symm) hown (hE.t w719 rfl) (hE.t w720 rfl) (hE.t w721 rfl) (hE.t w722 rfl) hK hP hD hS (20) (27) 2 rfl rfl rfl rfl (0) (0) (x.nsc) (by omega) (by omega) (by omega) (by omega) (by omega) (fun _ _ => rfl) (Nat.le_of_ble_eq_true rfl) (Nat.le_of_ble_eq_true rfl) d_H_takeParcels_56 (fun H locs hP hD hS => ?_)
  have hP : va_P D vwCl (VW dA h ad (VS.s_ssF (VS.s_ssO (VS.s_spc (VS.s_sP x (va_cpy x.nP x.sP 0 0 x.npc)) x.npc) (va_cpy x.nsO x.ssO 0 0 x.nsc)) (va_cpy x.nsF x.ssF 0 0 x.nsc))) H := hP
  have hD : va_D A (VW dA h ad (VS.s_ssF (VS.s_ssO (VS.s_spc (VS.s_sP x (va_cpy x.nP x.sP 0 0 x.npc)) x.npc) (va_cpy x.nsO x.ssO 0 0 x.nsc)) (va_cpy x.nsF x.ssF 0 0 x.nsc))) := hD
  refine lv_aload_n hx hb d_H_takeParcels_59 rfl (lv_at hl 1 rfl) ?_
  refine gF (v := .ref (ad 7)) hx hb hown hE hK hP 17 rfl rfl layH 4 (by decide) w202 rfl d_H_takeParcels_60 ?_
  refine lv_iconst (v := 0) hx hb d_H_takeParcels_63 (by decide) ?_
  refine lv_aload_n hx hb d_H_takeParcels_64 rfl (lv_at hl 0 rfl) ?_
  refine gF (v := .ref (ad 14)) hx hb hown hE hK hP 24 rfl rfl layH 4 (by decide) w202 rfl d_H_takeParcels_65 ?_
  refine lv_iconst (v := 0) hx hb d_H_takeParcels_68 (by decide) ?_
  refine lv_aload_n hx hb d_H_takeParcels_69 rfl (lv_at hl 1 rfl) ?_
  refine gF (v := .int (nI x.nsc)) hx hb hown hE hK hP 17 rfl rfl layH 6 (by decide) w567 rfl d_H_takeParcels_70 ?_
  refine ncpyl (f := x.nsT) (g := x.ssT) (n0 := 64) (n1 := 64) hx hb (hml.trans hl.1.symm) hown (hE.t w719 rfl) (hE.t w720 rfl) (hE.t w721 rfl) (hE.t w722 rfl) hK hP hD hS (21) (28) 2 rfl rfl rfl rfl (0) (0) (x.nsc) (by omega) (by omega) (by omega) (by omega) (by omega) (fun _ _ => rfl) (Nat.le_of_ble_eq_true rfl) (Nat.le_of_ble_eq_true rfl) d_H_takeParcels_73 (fun H locs hP hD hS => ?_)
  have hP : va_P D vwCl (VW dA h ad (VS.s_ssT (VS.s_ssF (VS.s_ssO (VS.s_spc (VS.s_sP x (va_cpy x.nP x.sP 0 0 x.npc)) x.npc) (va_cpy x.nsO x.ssO 0 0 x.nsc)) (va_cpy x.nsF x.ssF 0 0 x.nsc)) (va_cpy x.nsT x.ssT 0 0 x.nsc))) H := hP
  have hD : va_D A (VW dA h ad (VS.s_ssT (VS.s_ssF (VS.s_ssO (VS.s_spc (VS.s_sP x (va_cpy x.nP x.sP 0 0 x.npc)) x.npc) (va_cpy x.nsO x.ssO 0 0 x.nsc)) (va_cpy x.nsF x.ssF 0 0 x.nsc)) (va_cpy x.nsT x.ssT 0 0 x.nsc))) := hD
  refine lv_aload_n hx hb d_H_takeParcels_76 rfl (lv_at hl 0 rfl) ?_
  refine lv_aload_n hx hb d_H_takeParcels_77 rfl (lv_at hl 1 rfl) ?_
  refine gF (v := .int (nI x.nsc)) hx hb hown hE hK hP 17 rfl rfl layH 6 (by decide) w567 rfl d_H_takeParcels_78 ?_
  refine pF (v := .int (nI x.nsc)) hx hb hown hE hK hP hD hS 24 rfl rfl layH tyH tokH nmH 6 (by decide) w567 rfl rfl rfl (Nat.le_of_ble_eq_true rfl) d_H_takeParcels_81 (fun H locs hP hD hS => ?_)
  have hP : va_P D vwCl (VW dA h ad (VS.s_ssc (VS.s_ssT (VS.s_ssF (VS.s_ssO (VS.s_spc (VS.s_sP x (va_cpy x.nP x.sP 0 0 x.npc)) x.npc) (va_cpy x.nsO x.ssO 0 0 x.nsc)) (va_cpy x.nsF x.ssF 0 0 x.nsc)) (va_cpy x.nsT x.ssT 0 0 x.nsc)) x.nsc)) H := hP
  have hD : va_D A (VW dA h ad (VS.s_ssc (VS.s_ssT (VS.s_ssF (VS.s_ssO (VS.s_spc (VS.s_sP x (va_cpy x.nP x.sP 0 0 x.npc)) x.npc) (va_cpy x.nsO x.ssO 0 0 x.nsc)) (va_cpy x.nsF x.ssF 0 0 x.nsc)) (va_cpy x.nsT x.ssT 0 0 x.nsc)) x.nsc)) := hD
  refine lv_aload_n hx hb d_H_takeParcels_84 rfl (lv_at hl 0 rfl) ?_
  refine lv_aload_n hx hb d_H_takeParcels_85 rfl (lv_at hl 1 rfl) ?_
  refine gF (v := .long x.nhor) hx hb hown hE hK hP 17 rfl rfl layH 7 (by decide) w568 rfl d_H_takeParcels_86 ?_
  refine pF (v := .long x.nhor) hx hb hown hE hK hP hD hS 24 rfl rfl layH tyH tokH nmH 7 (by decide) w568 rfl rfl rfl (Nat.le_of_ble_eq_true rfl) d_H_takeParcels_89 (fun H locs hP hD hS => ?_)
  have hP : va_P D vwCl (VW dA h ad (VS.s_shor (VS.s_ssc (VS.s_ssT (VS.s_ssF (VS.s_ssO (VS.s_spc (VS.s_sP x (va_cpy x.nP x.sP 0 0 x.npc)) x.npc) (va_cpy x.nsO x.ssO 0 0 x.nsc)) (va_cpy x.nsF x.ssF 0 0 x.nsc)) (va_cpy x.nsT x.ssT 0 0 x.nsc)) x.nsc) x.nhor)) H := hP
  have hD : va_D A (VW dA h ad (VS.s_shor (VS.s_ssc (VS.s_ssT (VS.s_ssF (VS.s_ssO (VS.s_spc (VS.s_sP x (va_cpy x.nP x.sP 0 0 x.npc)) x.npc) (va_cpy x.nsO x.ssO 0 0 x.nsc)) (va_cpy x.nsF x.ssF 0 0 x.nsc)) (va_cpy x.nsT x.ssT 0 0 x.nsc)) x.nsc) x.nhor)) := hD
  exact rfV hx hb hr hlk hS () trivial hP hD (Nat.le_of_ble_eq_true rfl) (Nat.le_of_ble_eq_true rfl) d_H_takeParcels_92
theorem d_H_takeCatalog_0 : decode prog_9_method_4_code 0 = .ok (.aload_n 1, 1) := by decide +kernel
theorem d_H_takeCatalog_1 : decode prog_9_method_4_code 1 = .ok (.getfield 31, 3) := by decide +kernel
theorem d_H_takeCatalog_4 : decode prog_9_method_4_code 4 = .ok (.iconst 0, 1) := by decide +kernel
theorem d_H_takeCatalog_5 : decode prog_9_method_4_code 5 = .ok (.aload_n 0, 1) := by decide +kernel
theorem d_H_takeCatalog_6 : decode prog_9_method_4_code 6 = .ok (.getfield 31, 3) := by decide +kernel
theorem d_H_takeCatalog_9 : decode prog_9_method_4_code 9 = .ok (.iconst 0, 1) := by decide +kernel
theorem d_H_takeCatalog_10 : decode prog_9_method_4_code 10 = .ok (.aload_n 1, 1) := by decide +kernel
theorem d_H_takeCatalog_11 : decode prog_9_method_4_code 11 = .ok (.getfield 45, 3) := by decide +kernel
theorem d_H_takeCatalog_14 : decode prog_9_method_4_code 14 = .ok (.invokestatic 51, 3) := by decide +kernel
theorem d_H_takeCatalog_17 : decode prog_9_method_4_code 17 = .ok (.aload_n 0, 1) := by decide +kernel
theorem d_H_takeCatalog_18 : decode prog_9_method_4_code 18 = .ok (.aload_n 1, 1) := by decide +kernel
theorem d_H_takeCatalog_19 : decode prog_9_method_4_code 19 = .ok (.getfield 45, 3) := by decide +kernel
theorem d_H_takeCatalog_22 : decode prog_9_method_4_code 22 = .ok (.putfield 45, 3) := by decide +kernel
theorem d_H_takeCatalog_25 : decode prog_9_method_4_code 25 = .ok (.aload_n 0, 1) := by decide +kernel
theorem d_H_takeCatalog_26 : decode prog_9_method_4_code 26 = .ok (.aload_n 1, 1) := by decide +kernel
theorem d_H_takeCatalog_27 : decode prog_9_method_4_code 27 = .ok (.getfield 48, 3) := by decide +kernel
theorem d_H_takeCatalog_30 : decode prog_9_method_4_code 30 = .ok (.putfield 48, 3) := by decide +kernel
theorem d_H_takeCatalog_33 : decode prog_9_method_4_code 33 = .ok (.return_, 1) := by decide +kernel
set_option maxHeartbeats 4000000 in
set_option maxRecDepth 100000 in
theorem v_takeCatalog_s (l : Launch) (D : va_G) (dA : Nat → ClassId) (sz : Nat) (h : Nat) (ad : Nat → Nat) (x : VS) (h1 : x.nser ≤ 256) : Met l ⟨"SeriesVault$Shelf", "takeCatalog", "(LSeriesVault$Shelf;)V"⟩ [Cond.code ⟨"SeriesVault$Shelf", "takeCatalog", "(LSeriesVault$Shelf;)V"⟩ prog_9_method_4_code 2 none] { frames := 1, cells := 0, slots := 0, locals := 40 } (pC D dA [.ref (ad 10), .ref (ad 3)] (VW dA h ad x) sz) (va_Qv (fun (u9 : Unit) => True) (fun (u9 : Unit) t9 => bW D (va_A (VW dA h ad x) sz) (VW dA h ad (VS.s_scat (VS.s_slast (VS.s_sser x x.nser) (va_cpy x.nlast x.slast 0 0 x.nser)) x.ncat)) t9) (va_A (VW dA h ad x) sz)) 0 0 (va_A (VW dA h ad x) sz) := by
  refine mkC (y := ⟨"SeriesVault$Shelf", "takeCatalog", "(LSeriesVault$Shelf;)V"⟩) (cc := prog_9_method_4_code) (maxL := 2) (av := [.ref (ad 10), .ref (ad 3)]) (ws := VW dA h ad x) (sz := sz) (Qc := fun A => va_Qv (fun (u9 : Unit) => True) (fun (u9 : Unit) t9 => bW D A (VW dA h ad (VS.s_scat (VS.s_slast (VS.s_sser x x.nser) (va_cpy x.nlast x.slast 0 0 x.nser)) x.ncat)) t9) A) (by decide) (Nat.le_of_ble_eq_true rfl) ?_
  intro A p e s m below meth c ls hsz hB
  obtain ⟨hx, hb, hr, hml, hown, hin, hlk, hE, hK, hP, hD, hS, hA, hN, hl⟩ := hB
  have hown : s.vm.findClass "SeriesVault$Shelf" = some m.cls := hown
  have hl : lv_has ls 2 [(0, .ref (ad 10)), (1, .ref (ad 3))] := hl
  obtain ⟨H, hH⟩ : ∃ z, z = s.heap := ⟨_, rfl⟩
  have hP : va_P D vwCl (VW dA h ad x) H := by rw [hH]; exact hP
  have hS : va_S A s.heap H [] := by rw [hH]; exact hS
  rw [← hH]
  refine lv_aload_n hx hb d_H_takeCatalog_0 rfl (lv_at hl 1 rfl) ?_
  refine gF (v := .ref (ad 9)) hx hb hown hE hK hP 17 rfl rfl layH 9 (by decide) w204 rfl d_H_takeCatalog_1 ?_
  refine lv_iconst (v := 0) hx hb d_H_takeCatalog_4 (by decide) ?_
  refine lv_aload_n hx hb d_H_takeCatalog_5 rfl (lv_at hl 0 rfl) ?_
  refine gF (v := .ref (ad 16)) hx hb hown hE hK hP 24 rfl rfl layH 9 (by decide) w204 rfl d_H_takeCatalog_6 ?_
  refine lv_iconst (v := 0) hx hb d_H_takeCatalog_9 (by decide) ?_
  refine lv_aload_n hx hb d_H_takeCatalog_10 rfl (lv_at hl 1 rfl) ?_
  refine gF (v := .int (nI x.nser)) hx hb hown hE hK hP 17 rfl rfl layH 8 (by decide) w569 rfl d_H_takeCatalog_11 ?_
  refine ncpyl (f := x.nlast) (g := x.slast) (n0 := 256) (n1 := 256) hx hb (hml.trans hl.1.symm) hown (hE.t w719 rfl) (hE.t w720 rfl) (hE.t w721 rfl) (hE.t w722 rfl) hK hP hD hS (23) (30) 2 rfl rfl rfl rfl (0) (0) (x.nser) (by omega) (by omega) (by omega) (by omega) (by omega) (fun _ _ => rfl) (Nat.le_of_ble_eq_true rfl) (Nat.le_of_ble_eq_true rfl) d_H_takeCatalog_14 (fun H locs hP hD hS => ?_)
  have hP : va_P D vwCl (VW dA h ad (VS.s_slast x (va_cpy x.nlast x.slast 0 0 x.nser))) H := hP
  have hD : va_D A (VW dA h ad (VS.s_slast x (va_cpy x.nlast x.slast 0 0 x.nser))) := hD
  refine lv_aload_n hx hb d_H_takeCatalog_17 rfl (lv_at hl 0 rfl) ?_
  refine lv_aload_n hx hb d_H_takeCatalog_18 rfl (lv_at hl 1 rfl) ?_
  refine gF (v := .int (nI x.nser)) hx hb hown hE hK hP 17 rfl rfl layH 8 (by decide) w569 rfl d_H_takeCatalog_19 ?_
  refine pF (v := .int (nI x.nser)) hx hb hown hE hK hP hD hS 24 rfl rfl layH tyH tokH nmH 8 (by decide) w569 rfl rfl rfl (Nat.le_of_ble_eq_true rfl) d_H_takeCatalog_22 (fun H locs hP hD hS => ?_)
  have hP : va_P D vwCl (VW dA h ad (VS.s_slast (VS.s_sser x x.nser) (va_cpy x.nlast x.slast 0 0 x.nser))) H := hP
  have hD : va_D A (VW dA h ad (VS.s_slast (VS.s_sser x x.nser) (va_cpy x.nlast x.slast 0 0 x.nser))) := hD
  refine lv_aload_n hx hb d_H_takeCatalog_25 rfl (lv_at hl 0 rfl) ?_
  refine lv_aload_n hx hb d_H_takeCatalog_26 rfl (lv_at hl 1 rfl) ?_
  refine gF (v := .int (nI x.ncat)) hx hb hown hE hK hP 17 rfl rfl layH 10 (by decide) w570 rfl d_H_takeCatalog_27 ?_
  refine pF (v := .int (nI x.ncat)) hx hb hown hE hK hP hD hS 24 rfl rfl layH tyH tokH nmH 10 (by decide) w570 rfl rfl rfl (Nat.le_of_ble_eq_true rfl) d_H_takeCatalog_30 (fun H locs hP hD hS => ?_)
  have hP : va_P D vwCl (VW dA h ad (VS.s_scat (VS.s_slast (VS.s_sser x x.nser) (va_cpy x.nlast x.slast 0 0 x.nser)) x.ncat)) H := hP
  have hD : va_D A (VW dA h ad (VS.s_scat (VS.s_slast (VS.s_sser x x.nser) (va_cpy x.nlast x.slast 0 0 x.nser)) x.ncat)) := hD
  exact rfV hx hb hr hlk hS () trivial hP hD (Nat.le_of_ble_eq_true rfl) (Nat.le_of_ble_eq_true rfl) d_H_takeCatalog_33
set_option maxHeartbeats 4000000 in
set_option maxRecDepth 100000 in
theorem v_takeParcels_n (l : Launch) (D : va_G) (dA : Nat → ClassId) (sz : Nat) (h : Nat) (ad : Nat → Nat) (x : VS) (PS : Nat → PT) (hps : psOk dA x.sP x.spc x.pl PS) (h1 : x.spc ≤ 32) (h2 : x.ssc ≤ 64) : Met l ⟨"SeriesVault$Shelf", "takeParcels", "(LSeriesVault$Shelf;)V"⟩ [Cond.code ⟨"SeriesVault$Shelf", "takeParcels", "(LSeriesVault$Shelf;)V"⟩ prog_9_method_3_code 2 none] { frames := 1, cells := 0, slots := 0, locals := 40 } (pC D dA [.ref (ad 3), .ref (ad 10)] (VW dA h ad x) sz) (va_Qv (fun (u9 : Unit) => True) (fun (u9 : Unit) t9 => bW D (va_A (VW dA h ad x) sz) (VW dA h ad (VS.s_nhor (VS.s_nsc (VS.s_nsT (VS.s_nsF (VS.s_nsO (VS.s_npc (VS.s_nP x (va_cpy x.sP x.nP 0 0 x.spc)) x.spc) (va_cpy x.ssO x.nsO 0 0 x.ssc)) (va_cpy x.ssF x.nsF 0 0 x.ssc)) (va_cpy x.ssT x.nsT 0 0 x.ssc)) x.ssc) x.shor)) t9) (va_A (VW dA h ad x) sz)) 0 0 (va_A (VW dA h ad x) sz) := by
  refine mkC (y := ⟨"SeriesVault$Shelf", "takeParcels", "(LSeriesVault$Shelf;)V"⟩) (cc := prog_9_method_3_code) (maxL := 2) (av := [.ref (ad 3), .ref (ad 10)]) (ws := VW dA h ad x) (sz := sz) (Qc := fun A => va_Qv (fun (u9 : Unit) => True) (fun (u9 : Unit) t9 => bW D A (VW dA h ad (VS.s_nhor (VS.s_nsc (VS.s_nsT (VS.s_nsF (VS.s_nsO (VS.s_npc (VS.s_nP x (va_cpy x.sP x.nP 0 0 x.spc)) x.spc) (va_cpy x.ssO x.nsO 0 0 x.ssc)) (va_cpy x.ssF x.nsF 0 0 x.ssc)) (va_cpy x.ssT x.nsT 0 0 x.ssc)) x.ssc) x.shor)) t9) A) (by decide) (Nat.le_of_ble_eq_true rfl) ?_
  intro A p e s m below meth c ls hsz hB
  obtain ⟨hx, hb, hr, hml, hown, hin, hlk, hE, hK, hP, hD, hS, hA, hN, hl⟩ := hB
  have hown : s.vm.findClass "SeriesVault$Shelf" = some m.cls := hown
  have hl : lv_has ls 2 [(0, .ref (ad 3)), (1, .ref (ad 10))] := hl
  obtain ⟨H, hH⟩ : ∃ z, z = s.heap := ⟨_, rfl⟩
  have hP : va_P D vwCl (VW dA h ad x) H := by rw [hH]; exact hP
  have hS : va_S A s.heap H [] := by rw [hH]; exact hS
  rw [← hH]
  refine lv_aload_n hx hb d_H_takeParcels_0 rfl (lv_at hl 1 rfl) ?_
  refine gF (v := .ref (ad 11)) hx hb hown hE hK hP 24 rfl rfl layH 0 (by decide) w199 rfl d_H_takeParcels_1 ?_
  refine lv_iconst (v := 0) hx hb d_H_takeParcels_4 (by decide) ?_
  refine lv_aload_n hx hb d_H_takeParcels_5 rfl (lv_at hl 0 rfl) ?_
  refine gF (v := .ref (ad 4)) hx hb hown hE hK hP 17 rfl rfl layH 0 (by decide) w199 rfl d_H_takeParcels_6 ?_
  refine lv_iconst (v := 0) hx hb d_H_takeParcels_9 (by decide) ?_
  refine lv_aload_n hx hb d_H_takeParcels_10 rfl (lv_at hl 1 rfl) ?_
  refine gF (v := .int (nI x.spc)) hx hb hown hE hK hP 24 rfl rfl layH 1 (by decide) w566 rfl d_H_takeParcels_11 ?_
  refine ncpyq (r := ("SeriesVault$Parcel", TC, 8)) (f := x.sP) (g := x.nP) (n0 := 32) (n1 := 32) hx hb (hml.trans hl.1.symm) hown (hE.t w719 rfl) (hE.t w720 rfl) (hE.t w721 rfl) (hE.t w722 rfl) hK hP hD hS (25) (18) 4 12 rfl rfl rfl rfl (0) (0) (x.spc) (by omega) (by omega) (by omega) (by omega) (by omega) (psel hps (fun _ hm => plm hm)) (Nat.le_of_ble_eq_true rfl) (Nat.le_of_ble_eq_true rfl) d_H_takeParcels_14 (fun H locs hP hD hS => ?_)
  have hP : va_P D vwCl (VW dA h ad (VS.s_nP x (va_cpy x.sP x.nP 0 0 x.spc))) H := hP
  have hD : va_D A (VW dA h ad (VS.s_nP x (va_cpy x.sP x.nP 0 0 x.spc))) := hD
  refine lv_aload_n hx hb d_H_takeParcels_17 rfl (lv_at hl 0 rfl) ?_
  refine lv_aload_n hx hb d_H_takeParcels_18 rfl (lv_at hl 1 rfl) ?_
  refine gF (v := .int (nI x.spc)) hx hb hown hE hK hP 24 rfl rfl layH 1 (by decide) w566 rfl d_H_takeParcels_19 ?_
  refine pF (v := .int (nI x.spc)) hx hb hown hE hK hP hD hS 17 rfl rfl layH tyH tokH nmH 1 (by decide) w566 rfl rfl rfl (Nat.le_of_ble_eq_true rfl) d_H_takeParcels_22 (fun H locs hP hD hS => ?_)
  have hP : va_P D vwCl (VW dA h ad (VS.s_npc (VS.s_nP x (va_cpy x.sP x.nP 0 0 x.spc)) x.spc)) H := hP
  have hD : va_D A (VW dA h ad (VS.s_npc (VS.s_nP x (va_cpy x.sP x.nP 0 0 x.spc)) x.spc)) := hD
  refine lv_aload_n hx hb d_H_takeParcels_25 rfl (lv_at hl 1 rfl) ?_
  refine gF (v := .ref (ad 12)) hx hb hown hE hK hP 24 rfl rfl layH 2 (by decide) w200 rfl d_H_takeParcels_26 ?_
  refine lv_iconst (v := 0) hx hb d_H_takeParcels_29 (by decide) ?_
  refine lv_aload_n hx hb d_H_takeParcels_30 rfl (lv_at hl 0 rfl) ?_
  refine gF (v := .ref (ad 5)) hx hb hown hE hK hP 17 rfl rfl layH 2 (by decide) w200 rfl d_H_takeParcels_31 ?_
  refine lv_iconst (v := 0) hx hb d_H_takeParcels_34 (by decide) ?_
  refine lv_aload_n hx hb d_H_takeParcels_35 rfl (lv_at hl 1 rfl) ?_
  refine gF (v := .int (nI x.ssc)) hx hb hown hE hK hP 24 rfl rfl layH 6 (by decide) w567 rfl d_H_takeParcels_36 ?_
  refine ncpyi (f := (fun z9 => nI (x.ssO z9))) (g := (fun z9 => nI (x.nsO z9))) (n0 := 64) (n1 := 64) hx hb (hml.trans hl.1.symm) hown (hE.t w719 rfl) (hE.t w720 rfl) (hE.t w721 rfl) (hE.t w722 rfl) hK hP hD hS (26) (19) 1 rfl rfl rfl rfl (0) (0) (x.ssc) (by omega) (by omega) (by omega) (by omega) (by omega) (fun _ _ => rfl) (Nat.le_of_ble_eq_true rfl) (Nat.le_of_ble_eq_true rfl) d_H_takeParcels_39 (fun H locs hP hD hS => ?_)
  rw [cpyNI] at hP hD
  have hP : va_P D vwCl (VW dA h ad (VS.s_nsO (VS.s_npc (VS.s_nP x (va_cpy x.sP x.nP 0 0 x.spc)) x.spc) (va_cpy x.ssO x.nsO 0 0 x.ssc))) H := hP
  have hD : va_D A (VW dA h ad (VS.s_nsO (VS.s_npc (VS.s_nP x (va_cpy x.sP x.nP 0 0 x.spc)) x.spc) (va_cpy x.ssO x.nsO 0 0 x.ssc))) := hD
  refine lv_aload_n hx hb d_H_takeParcels_42 rfl (lv_at hl 1 rfl) ?_
  refine gF (v := .ref (ad 13)) hx hb hown hE hK hP 24 rfl rfl layH 3 (by decide) w201 rfl d_H_takeParcels_43 ?_
  refine lv_iconst (v := 0) hx hb d_H_takeParcels_46 (by decide) ?_
  refine lv_aload_n hx hb d_H_takeParcels_47 rfl (lv_at hl 0 rfl) ?_
  refine gF (v := .ref (ad 6)) hx hb hown hE hK hP 17 rfl rfl layH 3 (by decide) w201 rfl d_H_takeParcels_48 ?_
  refine lv_iconst (v := 0) hx hb d_H_takeParcels_51 (by decide) ?_
  refine lv_aload_n hx hb d_H_takeParcels_52 rfl (lv_at hl 1 rfl) ?_
  refine gF (v := .int (nI x.ssc)) hx hb hown hE hK hP 24 rfl rfl layH 6 (by decide) w567 rfl d_H_takeParcels_53 ?_
  refine ncpyl (f := x.ssF) (g := x.nsF) (n0 := 64) (n1 := 64) hx hb (hml.trans hl.1.symm) hown (hE.t w719 rfl) (hE.t w720 rfl) (hE.t w721 rfl) (hE.t w722 rfl) hK hP hD hS (27) (20) 2 rfl rfl rfl rfl (0) (0) (x.ssc) (by omega) (by omega) (by omega) (by omega) (by omega) (fun _ _ => rfl) (Nat.le_of_ble_eq_true rfl) (Nat.le_of_ble_eq_true rfl) d_H_takeParcels_56 (fun H locs hP hD hS => ?_)
  have hP : va_P D vwCl (VW dA h ad (VS.s_nsF (VS.s_nsO (VS.s_npc (VS.s_nP x (va_cpy x.sP x.nP 0 0 x.spc)) x.spc) (va_cpy x.ssO x.nsO 0 0 x.ssc)) (va_cpy x.ssF x.nsF 0 0 x.ssc))) H := hP
  have hD : va_D A (VW dA h ad (VS.s_nsF (VS.s_nsO (VS.s_npc (VS.s_nP x (va_cpy x.sP x.nP 0 0 x.spc)) x.spc) (va_cpy x.ssO x.nsO 0 0 x.ssc)) (va_cpy x.ssF x.nsF 0 0 x.ssc))) := hD
  refine lv_aload_n hx hb d_H_takeParcels_59 rfl (lv_at hl 1 rfl) ?_
  refine gF (v := .ref (ad 14)) hx hb hown hE hK hP 24 rfl rfl layH 4 (by decide) w202 rfl d_H_takeParcels_60 ?_
  refine lv_iconst (v := 0) hx hb d_H_takeParcels_63 (by decide) ?_
  refine lv_aload_n hx hb d_H_takeParcels_64 rfl (lv_at hl 0 rfl) ?_
  refine gF (v := .ref (ad 7)) hx hb hown hE hK hP 17 rfl rfl layH 4 (by decide) w202 rfl d_H_takeParcels_65 ?_
  refine lv_iconst (v := 0) hx hb d_H_takeParcels_68 (by decide) ?_
  refine lv_aload_n hx hb d_H_takeParcels_69 rfl (lv_at hl 1 rfl) ?_
  refine gF (v := .int (nI x.ssc)) hx hb hown hE hK hP 24 rfl rfl layH 6 (by decide) w567 rfl d_H_takeParcels_70 ?_
  refine ncpyl (f := x.ssT) (g := x.nsT) (n0 := 64) (n1 := 64) hx hb (hml.trans hl.1.symm) hown (hE.t w719 rfl) (hE.t w720 rfl) (hE.t w721 rfl) (hE.t w722 rfl) hK hP hD hS (28) (21) 2 rfl rfl rfl rfl (0) (0) (x.ssc) (by omega) (by omega) (by omega) (by omega) (by omega) (fun _ _ => rfl) (Nat.le_of_ble_eq_true rfl) (Nat.le_of_ble_eq_true rfl) d_H_takeParcels_73 (fun H locs hP hD hS => ?_)
  have hP : va_P D vwCl (VW dA h ad (VS.s_nsT (VS.s_nsF (VS.s_nsO (VS.s_npc (VS.s_nP x (va_cpy x.sP x.nP 0 0 x.spc)) x.spc) (va_cpy x.ssO x.nsO 0 0 x.ssc)) (va_cpy x.ssF x.nsF 0 0 x.ssc)) (va_cpy x.ssT x.nsT 0 0 x.ssc))) H := hP
  have hD : va_D A (VW dA h ad (VS.s_nsT (VS.s_nsF (VS.s_nsO (VS.s_npc (VS.s_nP x (va_cpy x.sP x.nP 0 0 x.spc)) x.spc) (va_cpy x.ssO x.nsO 0 0 x.ssc)) (va_cpy x.ssF x.nsF 0 0 x.ssc)) (va_cpy x.ssT x.nsT 0 0 x.ssc))) := hD
  refine lv_aload_n hx hb d_H_takeParcels_76 rfl (lv_at hl 0 rfl) ?_
  refine lv_aload_n hx hb d_H_takeParcels_77 rfl (lv_at hl 1 rfl) ?_
  refine gF (v := .int (nI x.ssc)) hx hb hown hE hK hP 24 rfl rfl layH 6 (by decide) w567 rfl d_H_takeParcels_78 ?_
  refine pF (v := .int (nI x.ssc)) hx hb hown hE hK hP hD hS 17 rfl rfl layH tyH tokH nmH 6 (by decide) w567 rfl rfl rfl (Nat.le_of_ble_eq_true rfl) d_H_takeParcels_81 (fun H locs hP hD hS => ?_)
  have hP : va_P D vwCl (VW dA h ad (VS.s_nsc (VS.s_nsT (VS.s_nsF (VS.s_nsO (VS.s_npc (VS.s_nP x (va_cpy x.sP x.nP 0 0 x.spc)) x.spc) (va_cpy x.ssO x.nsO 0 0 x.ssc)) (va_cpy x.ssF x.nsF 0 0 x.ssc)) (va_cpy x.ssT x.nsT 0 0 x.ssc)) x.ssc)) H := hP
  have hD : va_D A (VW dA h ad (VS.s_nsc (VS.s_nsT (VS.s_nsF (VS.s_nsO (VS.s_npc (VS.s_nP x (va_cpy x.sP x.nP 0 0 x.spc)) x.spc) (va_cpy x.ssO x.nsO 0 0 x.ssc)) (va_cpy x.ssF x.nsF 0 0 x.ssc)) (va_cpy x.ssT x.nsT 0 0 x.ssc)) x.ssc)) := hD
  refine lv_aload_n hx hb d_H_takeParcels_84 rfl (lv_at hl 0 rfl) ?_
  refine lv_aload_n hx hb d_H_takeParcels_85 rfl (lv_at hl 1 rfl) ?_
  refine gF (v := .long x.shor) hx hb hown hE hK hP 24 rfl rfl layH 7 (by decide) w568 rfl d_H_takeParcels_86 ?_
  refine pF (v := .long x.shor) hx hb hown hE hK hP hD hS 17 rfl rfl layH tyH tokH nmH 7 (by decide) w568 rfl rfl rfl (Nat.le_of_ble_eq_true rfl) d_H_takeParcels_89 (fun H locs hP hD hS => ?_)
  have hP : va_P D vwCl (VW dA h ad (VS.s_nhor (VS.s_nsc (VS.s_nsT (VS.s_nsF (VS.s_nsO (VS.s_npc (VS.s_nP x (va_cpy x.sP x.nP 0 0 x.spc)) x.spc) (va_cpy x.ssO x.nsO 0 0 x.ssc)) (va_cpy x.ssF x.nsF 0 0 x.ssc)) (va_cpy x.ssT x.nsT 0 0 x.ssc)) x.ssc) x.shor)) H := hP
  have hD : va_D A (VW dA h ad (VS.s_nhor (VS.s_nsc (VS.s_nsT (VS.s_nsF (VS.s_nsO (VS.s_npc (VS.s_nP x (va_cpy x.sP x.nP 0 0 x.spc)) x.spc) (va_cpy x.ssO x.nsO 0 0 x.ssc)) (va_cpy x.ssF x.nsF 0 0 x.ssc)) (va_cpy x.ssT x.nsT 0 0 x.ssc)) x.ssc) x.shor)) := hD
  exact rfV hx hb hr hlk hS () trivial hP hD (Nat.le_of_ble_eq_true rfl) (Nat.le_of_ble_eq_true rfl) d_H_takeParcels_92
set_option maxHeartbeats 4000000 in
set_option maxRecDepth 100000 in
theorem v_takeCatalog_n (l : Launch) (D : va_G) (dA : Nat → ClassId) (sz : Nat) (h : Nat) (ad : Nat → Nat) (x : VS) (h1 : x.sser ≤ 256) : Met l ⟨"SeriesVault$Shelf", "takeCatalog", "(LSeriesVault$Shelf;)V"⟩ [Cond.code ⟨"SeriesVault$Shelf", "takeCatalog", "(LSeriesVault$Shelf;)V"⟩ prog_9_method_4_code 2 none] { frames := 1, cells := 0, slots := 0, locals := 40 } (pC D dA [.ref (ad 3), .ref (ad 10)] (VW dA h ad x) sz) (va_Qv (fun (u9 : Unit) => True) (fun (u9 : Unit) t9 => bW D (va_A (VW dA h ad x) sz) (VW dA h ad (VS.s_ncat (VS.s_nlast (VS.s_nser x x.sser) (va_cpy x.slast x.nlast 0 0 x.sser)) x.scat)) t9) (va_A (VW dA h ad x) sz)) 0 0 (va_A (VW dA h ad x) sz) := by
  refine mkC (y := ⟨"SeriesVault$Shelf", "takeCatalog", "(LSeriesVault$Shelf;)V"⟩) (cc := prog_9_method_4_code) (maxL := 2) (av := [.ref (ad 3), .ref (ad 10)]) (ws := VW dA h ad x) (sz := sz) (Qc := fun A => va_Qv (fun (u9 : Unit) => True) (fun (u9 : Unit) t9 => bW D A (VW dA h ad (VS.s_ncat (VS.s_nlast (VS.s_nser x x.sser) (va_cpy x.slast x.nlast 0 0 x.sser)) x.scat)) t9) A) (by decide) (Nat.le_of_ble_eq_true rfl) ?_
  intro A p e s m below meth c ls hsz hB
  obtain ⟨hx, hb, hr, hml, hown, hin, hlk, hE, hK, hP, hD, hS, hA, hN, hl⟩ := hB
  have hown : s.vm.findClass "SeriesVault$Shelf" = some m.cls := hown
  have hl : lv_has ls 2 [(0, .ref (ad 3)), (1, .ref (ad 10))] := hl
  obtain ⟨H, hH⟩ : ∃ z, z = s.heap := ⟨_, rfl⟩
  have hP : va_P D vwCl (VW dA h ad x) H := by rw [hH]; exact hP
  have hS : va_S A s.heap H [] := by rw [hH]; exact hS
  rw [← hH]
  refine lv_aload_n hx hb d_H_takeCatalog_0 rfl (lv_at hl 1 rfl) ?_
  refine gF (v := .ref (ad 16)) hx hb hown hE hK hP 24 rfl rfl layH 9 (by decide) w204 rfl d_H_takeCatalog_1 ?_
  refine lv_iconst (v := 0) hx hb d_H_takeCatalog_4 (by decide) ?_
  refine lv_aload_n hx hb d_H_takeCatalog_5 rfl (lv_at hl 0 rfl) ?_
  refine gF (v := .ref (ad 9)) hx hb hown hE hK hP 17 rfl rfl layH 9 (by decide) w204 rfl d_H_takeCatalog_6 ?_
  refine lv_iconst (v := 0) hx hb d_H_takeCatalog_9 (by decide) ?_
  refine lv_aload_n hx hb d_H_takeCatalog_10 rfl (lv_at hl 1 rfl) ?_
  refine gF (v := .int (nI x.sser)) hx hb hown hE hK hP 24 rfl rfl layH 8 (by decide) w569 rfl d_H_takeCatalog_11 ?_
  refine ncpyl (f := x.slast) (g := x.nlast) (n0 := 256) (n1 := 256) hx hb (hml.trans hl.1.symm) hown (hE.t w719 rfl) (hE.t w720 rfl) (hE.t w721 rfl) (hE.t w722 rfl) hK hP hD hS (30) (23) 2 rfl rfl rfl rfl (0) (0) (x.sser) (by omega) (by omega) (by omega) (by omega) (by omega) (fun _ _ => rfl) (Nat.le_of_ble_eq_true rfl) (Nat.le_of_ble_eq_true rfl) d_H_takeCatalog_14 (fun H locs hP hD hS => ?_)
  have hP : va_P D vwCl (VW dA h ad (VS.s_nlast x (va_cpy x.slast x.nlast 0 0 x.sser))) H := hP
  have hD : va_D A (VW dA h ad (VS.s_nlast x (va_cpy x.slast x.nlast 0 0 x.sser))) := hD
  refine lv_aload_n hx hb d_H_takeCatalog_17 rfl (lv_at hl 0 rfl) ?_
  refine lv_aload_n hx hb d_H_takeCatalog_18 rfl (lv_at hl 1 rfl) ?_
  refine gF (v := .int (nI x.sser)) hx hb hown hE hK hP 24 rfl rfl layH 8 (by decide) w569 rfl d_H_takeCatalog_19 ?_
  refine pF (v := .int (nI x.sser)) hx hb hown hE hK hP hD hS 17 rfl rfl layH tyH tokH nmH 8 (by decide) w569 rfl rfl rfl (Nat.le_of_ble_eq_true rfl) d_H_takeCatalog_22 (fun H locs hP hD hS => ?_)
  have hP : va_P D vwCl (VW dA h ad (VS.s_nlast (VS.s_nser x x.sser) (va_cpy x.slast x.nlast 0 0 x.sser))) H := hP
  have hD : va_D A (VW dA h ad (VS.s_nlast (VS.s_nser x x.sser) (va_cpy x.slast x.nlast 0 0 x.sser))) := hD
  refine lv_aload_n hx hb d_H_takeCatalog_25 rfl (lv_at hl 0 rfl) ?_
  refine lv_aload_n hx hb d_H_takeCatalog_26 rfl (lv_at hl 1 rfl) ?_
  refine gF (v := .int (nI x.scat)) hx hb hown hE hK hP 24 rfl rfl layH 10 (by decide) w570 rfl d_H_takeCatalog_27 ?_
  refine pF (v := .int (nI x.scat)) hx hb hown hE hK hP hD hS 17 rfl rfl layH tyH tokH nmH 10 (by decide) w570 rfl rfl rfl (Nat.le_of_ble_eq_true rfl) d_H_takeCatalog_30 (fun H locs hP hD hS => ?_)
  have hP : va_P D vwCl (VW dA h ad (VS.s_ncat (VS.s_nlast (VS.s_nser x x.sser) (va_cpy x.slast x.nlast 0 0 x.sser)) x.scat)) H := hP
  have hD : va_D A (VW dA h ad (VS.s_ncat (VS.s_nlast (VS.s_nser x x.sser) (va_cpy x.slast x.nlast 0 0 x.sser)) x.scat)) := hD
  exact rfV hx hb hr hlk hS () trivial hP hD (Nat.le_of_ble_eq_true rfl) (Nat.le_of_ble_eq_true rfl) d_H_takeCatalog_33
theorem d_H_putTogether_0 : decode prog_9_method_8_code 0 = .ok (.iload_n 1, 1) := by decide +kernel
theorem d_H_putTogether_1 : decode prog_9_method_8_code 1 = .ok (.istore_n 3, 1) := by decide +kernel
theorem d_H_putTogether_2 : decode prog_9_method_8_code 2 = .ok (.aload_n 2, 1) := by decide +kernel
theorem d_H_putTogether_3 : decode prog_9_method_8_code 3 = .ok (.ifnull 13, 3) := by decide +kernel
theorem d_H_putTogether_16 : decode prog_9_method_8_code 16 = .ok (.iload_n 1, 1) := by decide +kernel
theorem d_H_putTogether_17 : decode prog_9_method_8_code 17 = .ok (.iconst 2, 1) := by decide +kernel
theorem d_H_putTogether_18 : decode prog_9_method_8_code 18 = .ok (.iadd, 1) := by decide +kernel
theorem d_H_putTogether_19 : decode prog_9_method_8_code 19 = .ok (.istore 4, 2) := by decide +kernel
theorem d_H_putTogether_21 : decode prog_9_method_8_code 21 = .ok (.iload 4, 2) := by decide +kernel
theorem d_H_putTogether_23 : decode prog_9_method_8_code 23 = .ok (.aload_n 0, 1) := by decide +kernel
theorem d_H_putTogether_24 : decode prog_9_method_8_code 24 = .ok (.getfield 34, 3) := by decide +kernel
theorem d_H_putTogether_27 : decode prog_9_method_8_code 27 = .ok (.if_icmp .ge 25, 3) := by decide +kernel
theorem d_H_putTogether_52 : decode prog_9_method_8_code 52 = .ok (.aload_n 0, 1) := by decide +kernel
theorem d_H_putTogether_53 : decode prog_9_method_8_code 53 = .ok (.iload_n 3, 1) := by decide +kernel
theorem d_H_putTogether_54 : decode prog_9_method_8_code 54 = .ok (.putfield 34, 3) := by decide +kernel
theorem d_H_putTogether_57 : decode prog_9_method_8_code 57 = .ok (.return_, 1) := by decide +kernel
theorem d_H_putTogether_30 : decode prog_9_method_8_code 30 = .ok (.aload_n 0, 1) := by decide +kernel
theorem d_H_putTogether_31 : decode prog_9_method_8_code 31 = .ok (.getfield 11, 3) := by decide +kernel
theorem d_H_putTogether_34 : decode prog_9_method_8_code 34 = .ok (.iload_n 3, 1) := by decide +kernel
theorem d_H_putTogether_35 : decode prog_9_method_8_code 35 = .ok (.aload_n 0, 1) := by decide +kernel
theorem d_H_putTogether_36 : decode prog_9_method_8_code 36 = .ok (.getfield 11, 3) := by decide +kernel
theorem d_H_putTogether_39 : decode prog_9_method_8_code 39 = .ok (.iload 4, 2) := by decide +kernel
theorem d_H_putTogether_41 : decode prog_9_method_8_code 41 = .ok (.aaload, 1) := by decide +kernel
theorem d_H_putTogether_42 : decode prog_9_method_8_code 42 = .ok (.aastore, 1) := by decide +kernel
theorem d_H_putTogether_43 : decode prog_9_method_8_code 43 = .ok (.iinc 3 1, 3) := by decide +kernel
theorem d_H_putTogether_46 : decode prog_9_method_8_code 46 = .ok (.iinc 4 1, 3) := by decide +kernel
theorem d_H_putTogether_49 : decode prog_9_method_8_code 49 = .ok (.goto (-28), 3) := by decide +kernel
set_option maxHeartbeats 4000000 in
set_option maxRecDepth 100000 in
theorem v_putTogether_0 (l : Launch) (D : va_G) (dA : Nat → ClassId) (sz : Nat) (h : Nat) (ad : Nat → Nat) (x : VS) (PS : Nat → PT) (k : Nat) (hps : psOk dA x.nP x.npc x.pl PS) (hpn : x.npc ≤ 32) (hk : k + 2 ≤ x.npc) : Met l ⟨"SeriesVault$Shelf", "putTogether", "(ILSeriesVault$Parcel;)V"⟩ [Cond.code ⟨"SeriesVault$Shelf", "putTogether", "(ILSeriesVault$Parcel;)V"⟩ prog_9_method_8_code 5 none] { frames := 1, cells := 0, slots := 0, locals := 0 } (pC D dA [.ref (ad 3), .int (nI k), .null] (VW dA h ad x) sz) (va_Qv (fun (u9 : Unit) => True) (fun (u9 : Unit) t9 => bW D (va_A (VW dA h ad x) sz) (VW dA h ad (VS.s_npc (VS.s_nP x (sfT x.nP k 2 (x.npc - (k + 2)))) (x.npc - 2))) t9) (va_A (VW dA h ad x) sz)) 0 0 (va_A (VW dA h ad x) sz) := by
  refine mkC (y := ⟨"SeriesVault$Shelf", "putTogether", "(ILSeriesVault$Parcel;)V"⟩) (cc := prog_9_method_8_code) (maxL := 5) (av := [.ref (ad 3), .int (nI k), .null]) (ws := VW dA h ad x) (sz := sz) (Qc := fun A => va_Qv (fun (u9 : Unit) => True) (fun (u9 : Unit) t9 => bW D A (VW dA h ad (VS.s_npc (VS.s_nP x (sfT x.nP k 2 (x.npc - (k + 2)))) (x.npc - 2))) t9) A) (by decide) (Nat.le_of_ble_eq_true rfl) ?_
  intro A p e s m below meth c ls hsz hB
  obtain ⟨hx, hb, hr, hml, hown, hin, hlk, hE, hK, hP, hD, hS, hA, hN, hl⟩ := hB
  have hown : s.vm.findClass "SeriesVault$Shelf" = some m.cls := hown
  have hl : lv_has ls 5 [(0, .ref (ad 3)), (1, .int (nI k)), (2, .null)] := hl
  obtain ⟨H, hH⟩ : ∃ z, z = s.heap := ⟨_, rfl⟩
  have hP : va_P D vwCl (VW dA h ad x) H := by rw [hH]; exact hP
  have hS : va_S A s.heap H [] := by rw [hH]; exact hS
  rw [← hH]
  refine lv_iload_n hx hb d_H_putTogether_0 rfl (lv_at hl 1 rfl) ?_
  refine lv_istore_n hx hb d_H_putTogether_1 rfl hl (by decide) rfl (fun ls hl => ?_)
  have hl : lv_has ls 5 [(3, .int (nI k)), (0, .ref (ad 3)), (1, .int (nI k)), (2, .null)] := hl
  refine lv_aload_nN hx hb d_H_putTogether_2 rfl (lv_at hl 3 rfl) ?_
  refine lv_ifnullN hx hb d_H_putTogether_3 (tgt := 16) rfl ?_
  refine lv_iload_n hx hb d_H_putTogether_16 rfl (lv_at hl 2 rfl) ?_
  refine lv_iconst (v := 2) hx hb d_H_putTogether_17 (by decide) ?_
  refine lv_iadd hx hb d_H_putTogether_18 (tpi (y := nI (k + 2)) (nI_add (k) (2)) ?_)
  refine lv_istore hx hb d_H_putTogether_19 hl (by decide) rfl (fun ls hl => ?_)
  have hl : lv_has ls 5 [(4, .int (nI (k + 2))), (3, .int (nI k)), (0, .ref (ad 3)), (1, .int (nI k)), (2, .null)] := hl
  have L21 : ∀ (k9 : Nat) (j : Nat) (i1 : k + 2 + j ≤ x.npc) (hk9 : x.npc - j = k9), ∀ (H : Heap) (locs : List Loc) (ls : Array Slot) (hP : va_P D vwCl (VW dA h ad (VS.s_nP x (sfT x.nP k 2 j))) H) (hD : va_D A (VW dA h ad (VS.s_nP x (sfT x.nP k 2 j)))) (hS : va_S A s.heap H locs) (hl : lv_has ls 5 [(3, .int (nI (k + j))), (4, .int (nI (k + 2 + j))), (1, .int (nI k)), (0, .ref (ad 3))]), W p l e ({ frames := 1, cells := 0, slots := 0, locals := 0 } : Room) s m ([.ref (ad 3), .int (nI k), .null] : List Value).toArray below meth c H locs 0 0 (MQ below (va_Qv (fun (u9 : Unit) => True) (fun (u9 : Unit) t9 => bW D A (VW dA h ad (VS.s_npc (VS.s_nP x (sfT x.nP k 2 (x.npc - (k + 2)))) (x.npc - 2))) t9) A) ([.ref (ad 3), .int (nI k), .null] : List Value).toArray s 0 0 A) (F0 m 21 ls []) := by
    intro k9
    induction k9 using Nat.strongRecOn with
    | ind k9 ih21 =>
      intro j i1 hk9 H locs ls hP hD hS hl
      refine lv_iload hx hb d_H_putTogether_21 (lv_at hl 1 rfl) ?_
      refine lv_aload_n hx hb d_H_putTogether_23 rfl (lv_at hl 3 rfl) ?_
      refine gF (v := .int (nI x.npc)) hx hb hown hE hK hP 17 rfl rfl layH 1 (by decide) w566 rfl d_H_putTogether_24 ?_
      refine lv_icmp_ge hx hb d_H_putTogether_27 (tgt := 52) rfl (fun g1 => ?_) (fun g1 => ?_)
      · have g1 := (nI_leI (a := x.npc) (b := k + 2 + j) (by omega) (by omega)).mp g1
        refine lv_aload_n hx hb d_H_putTogether_52 rfl (lv_at hl 3 rfl) ?_
        refine lv_iload_n hx hb d_H_putTogether_53 rfl (lv_at hl 0 rfl) ?_
        refine pF (v := .int (nI (k + j))) hx hb hown hE hK hP hD hS 17 rfl rfl layH tyH tokH nmH 1 (by decide) w566 rfl rfl rfl (Nat.le_of_ble_eq_true rfl) d_H_putTogether_54 (fun H locs hP hD hS => ?_)
        have hP : va_P D vwCl (VW dA h ad (VS.s_npc (VS.s_nP x (sfT x.nP k 2 j)) (k + j))) H := hP
        have hD : va_D A (VW dA h ad (VS.s_npc (VS.s_nP x (sfT x.nP k 2 j)) (k + j))) := hD
        have e9 : (VS.s_npc (VS.s_nP x (sfT x.nP k 2 j)) (k + j) : VS) = VS.s_npc (VS.s_nP x (sfT x.nP k 2 (x.npc - (k + 2)))) (x.npc - 2) := by rw [show (sfT x.nP k 2 (x.npc - (k + 2))) = (sfT x.nP k 2 j) from by (rw [show x.npc - (k + 2) = j by omega]), show (x.npc - 2) = (k + j) from by omega] <;> rfl
        exact rfV hx hb hr hlk hS () trivial (cvPv e9 hP) (cvDv e9 hD) (Nat.le_of_ble_eq_true rfl) (Nat.le_of_ble_eq_true rfl) d_H_putTogether_57
      · have g1 := mt (nI_leI (a := x.npc) (b := k + 2 + j) (by omega) (by omega)).mpr g1
        obtain ⟨pp, ke, hpp, hpk⟩ := hps (k + 2 + j) (by omega)
        have hpp0 := hpp
        obtain ⟨po, pt, pv, m1, m2, m3, m4⟩ := hpp
        have pk1 := hpk.1
        refine lv_aload_n hx hb d_H_putTogether_30 rfl (lv_at hl 3 rfl) ?_
        refine gF (v := .ref (ad 4)) hx hb hown hE hK hP 17 rfl rfl layH 0 (by decide) w199 rfl d_H_putTogether_31 ?_
        refine lv_iload_n hx hb d_H_putTogether_34 rfl (lv_at hl 0 rfl) ?_
        refine lv_aload_n hx hb d_H_putTogether_35 rfl (lv_at hl 3 rfl) ?_
        refine gF (v := .ref (ad 4)) hx hb hown hE hK hP 17 rfl rfl layH 0 (by decide) w199 rfl d_H_putTogether_36 ?_
        refine lv_iload hx hb d_H_putTogether_39 (lv_at hl 1 rfl) ?_
        refine nqld (f := (sfT x.nP k 2 j)) (n := 32) hx hb hK hP (18) 4 rfl rfl (k + 2 + j) (by omega) (by decide) ((sfT_at _ (by omega)).trans (show x.nP (k + 2 + j) = some pp from by exact ke)) d_H_putTogether_41 ?_
        obtain ⟨qp2, ep3⟩ := plv (dA := dA) (h := h) (ad := ad) (x := VS.s_nP x (sfT x.nP k 2 j)) m1
        refine nqst (r := ("SeriesVault$Parcel", TC, 8)) (f := (sfT x.nP k 2 j)) (n := 32) hx hb hK hP hD hS (18) 4 qp2 12 rfl rfl ep3 rfl (k + j) (by omega) (by decide) d_H_putTogether_42 (fun H locs hP hD hS => ?_)
        have hP : va_P D vwCl (VW dA h ad (VS.s_nP x (va_up (sfT x.nP k 2 j) (k + j) (some pp)))) H := hP
        have hD : va_D A (VW dA h ad (VS.s_nP x (va_up (sfT x.nP k 2 j) (k + j) (some pp)))) := hD
        refine lv_iinc (k := 0) (v := nI (k + j + 1)) hx hb d_H_putTogether_43 hl rfl (iincN (k + j) 1 1 (by decide)) (by decide) rfl (fun ls hl => ?_)
        have hl : lv_has ls 5 [(3, .int (nI (k + j + 1))), (4, .int (nI (k + 2 + j))), (1, .int (nI k)), (0, .ref (ad 3))] := hl
        refine lv_iinc (k := 1) (v := nI (k + 2 + j + 1)) hx hb d_H_putTogether_46 hl rfl (iincN (k + 2 + j) 1 1 (by decide)) (by decide) rfl (fun ls hl => ?_)
        have hl : lv_has ls 5 [(4, .int (nI (k + 2 + j + 1))), (3, .int (nI (k + j + 1))), (1, .int (nI k)), (0, .ref (ad 3))] := hl
        refine lv_goto hx hb d_H_putTogether_49 (tgt := 21) rfl ?_
        have e9 : (VS.s_nP x (va_up (sfT x.nP k 2 j) (k + j) (some pp)) : VS) = VS.s_nP x (sfT x.nP k 2 (j + 1)) := by rw [show (sfT x.nP k 2 (j + 1)) = (va_up (sfT x.nP k 2 j) (k + j) (some pp)) from (sfT_s (g := x.nP) (st := k) (d := 2) (n := j) (v := some pp) (by rw [show k + j + 2 = k + 2 + j by omega]; exact (show x.nP (k + 2 + j) = some pp from by exact ke).symm))] <;> rfl
        exact ih21 _ (by omega) (j + 1) (by omega) rfl H _ ls (cvPv e9 hP) (cvDv e9 hD) hS (lv_sub hl [1, 0, 2, 3] rfl)
  have e9 : (x : VS) = VS.s_nP x (sfT x.nP k 2 0) := by rw [show (sfT x.nP k 2 0) = x.nP from (sfT_0 _ _ _)] <;> rfl
  exact L21 _ 0 (by omega) rfl H _ ls (cvPv e9 hP) (cvDv e9 hD) hS (lv_sub hl [1, 0, 3, 2] rfl)
theorem d_H_putTogether_6 : decode prog_9_method_8_code 6 = .ok (.aload_n 0, 1) := by decide +kernel
theorem d_H_putTogether_7 : decode prog_9_method_8_code 7 = .ok (.getfield 11, 3) := by decide +kernel
theorem d_H_putTogether_10 : decode prog_9_method_8_code 10 = .ok (.iload_n 3, 1) := by decide +kernel
theorem d_H_putTogether_11 : decode prog_9_method_8_code 11 = .ok (.aload_n 2, 1) := by decide +kernel
theorem d_H_putTogether_12 : decode prog_9_method_8_code 12 = .ok (.aastore, 1) := by decide +kernel
theorem d_H_putTogether_13 : decode prog_9_method_8_code 13 = .ok (.iinc 3 1, 3) := by decide +kernel
set_option maxHeartbeats 4000000 in
set_option maxRecDepth 100000 in
theorem v_putTogether_1 (l : Launch) (D : va_G) (dA : Nat → ClassId) (sz : Nat) (h : Nat) (ad : Nat → Nat) (x : VS) (PS : Nat → PT) (k : Nat) (pp0 : Nat) (P : PT) (hps : psOk dA x.nP x.npc x.pl PS) (hpn : x.npc ≤ 32) (hk : k + 2 ≤ x.npc) (hpp0 : isPc dA x.pl pp0 P) : Met l ⟨"SeriesVault$Shelf", "putTogether", "(ILSeriesVault$Parcel;)V"⟩ [Cond.code ⟨"SeriesVault$Shelf", "putTogether", "(ILSeriesVault$Parcel;)V"⟩ prog_9_method_8_code 5 none] { frames := 1, cells := 0, slots := 0, locals := 0 } (pC D dA [.ref (ad 3), .int (nI k), .ref pp0] (VW dA h ad x) sz) (va_Qv (fun (u9 : Unit) => True) (fun (u9 : Unit) t9 => bW D (va_A (VW dA h ad x) sz) (VW dA h ad (VS.s_npc (VS.s_nP x (sfT (va_up x.nP k (some pp0)) (k + 1) 1 (x.npc - (k + 2)))) (x.npc - 1))) t9) (va_A (VW dA h ad x) sz)) 0 0 (va_A (VW dA h ad x) sz) := by
  refine mkC (y := ⟨"SeriesVault$Shelf", "putTogether", "(ILSeriesVault$Parcel;)V"⟩) (cc := prog_9_method_8_code) (maxL := 5) (av := [.ref (ad 3), .int (nI k), .ref pp0]) (ws := VW dA h ad x) (sz := sz) (Qc := fun A => va_Qv (fun (u9 : Unit) => True) (fun (u9 : Unit) t9 => bW D A (VW dA h ad (VS.s_npc (VS.s_nP x (sfT (va_up x.nP k (some pp0)) (k + 1) 1 (x.npc - (k + 2)))) (x.npc - 1))) t9) A) (by decide) (Nat.le_of_ble_eq_true rfl) ?_
  intro A p e s m below meth c ls hsz hB
  obtain ⟨hx, hb, hr, hml, hown, hin, hlk, hE, hK, hP, hD, hS, hA, hN, hl⟩ := hB
  have hown : s.vm.findClass "SeriesVault$Shelf" = some m.cls := hown
  have hl : lv_has ls 5 [(0, .ref (ad 3)), (1, .int (nI k)), (2, .ref pp0)] := hl
  obtain ⟨H, hH⟩ : ∃ z, z = s.heap := ⟨_, rfl⟩
  have hP : va_P D vwCl (VW dA h ad x) H := by rw [hH]; exact hP
  have hS : va_S A s.heap H [] := by rw [hH]; exact hS
  rw [← hH]
  have hp00 := hpp0
  obtain ⟨po0, pt0, pv0, n1, n2, n3, n4⟩ := hpp0
  refine lv_iload_n hx hb d_H_putTogether_0 rfl (lv_at hl 1 rfl) ?_
  refine lv_istore_n hx hb d_H_putTogether_1 rfl hl (by decide) rfl (fun ls hl => ?_)
  have hl : lv_has ls 5 [(3, .int (nI k)), (0, .ref (ad 3)), (1, .int (nI k)), (2, .ref pp0)] := hl
  refine lv_aload_n hx hb d_H_putTogether_2 rfl (lv_at hl 3 rfl) ?_
  refine lv_ifnull hx hb d_H_putTogether_3 ?_
  refine lv_aload_n hx hb d_H_putTogether_6 rfl (lv_at hl 1 rfl) ?_
  refine gF (v := .ref (ad 4)) hx hb hown hE hK hP 17 rfl rfl layH 0 (by decide) w199 rfl d_H_putTogether_7 ?_
  refine lv_iload_n hx hb d_H_putTogether_10 rfl (lv_at hl 0 rfl) ?_
  refine lv_aload_n hx hb d_H_putTogether_11 rfl (lv_at hl 3 rfl) ?_
  obtain ⟨qp1, ep2⟩ := plv (dA := dA) (h := h) (ad := ad) (x := x) n1
  refine nqst (r := ("SeriesVault$Parcel", TC, 8)) (f := x.nP) (n := 32) hx hb hK hP hD hS (18) 4 qp1 12 rfl rfl ep2 rfl (k) (by omega) (by decide) d_H_putTogether_12 (fun H locs hP hD hS => ?_)
  have hP : va_P D vwCl (VW dA h ad (VS.s_nP x (va_up x.nP k (some pp0)))) H := hP
  have hD : va_D A (VW dA h ad (VS.s_nP x (va_up x.nP k (some pp0)))) := hD
  refine lv_iinc (k := 0) (v := nI (k + 1)) hx hb d_H_putTogether_13 hl rfl (iincN (k) 1 1 (by decide)) (by decide) rfl (fun ls hl => ?_)
  have hl : lv_has ls 5 [(3, .int (nI (k + 1))), (0, .ref (ad 3)), (1, .int (nI k)), (2, .ref pp0)] := hl
  refine lv_iload_n hx hb d_H_putTogether_16 rfl (lv_at hl 2 rfl) ?_
  refine lv_iconst (v := 2) hx hb d_H_putTogether_17 (by decide) ?_
  refine lv_iadd hx hb d_H_putTogether_18 (tpi (y := nI (k + 2)) (nI_add (k) (2)) ?_)
  refine lv_istore hx hb d_H_putTogether_19 hl (by decide) rfl (fun ls hl => ?_)
  have hl : lv_has ls 5 [(4, .int (nI (k + 2))), (3, .int (nI (k + 1))), (0, .ref (ad 3)), (1, .int (nI k)), (2, .ref pp0)] := hl
  have L21 : ∀ (k9 : Nat) (j : Nat) (i1 : k + 2 + j ≤ x.npc) (hk9 : x.npc - j = k9), ∀ (H : Heap) (locs : List Loc) (ls : Array Slot) (hP : va_P D vwCl (VW dA h ad (VS.s_nP x (sfT (va_up x.nP k (some pp0)) (k + 1) 1 j))) H) (hD : va_D A (VW dA h ad (VS.s_nP x (sfT (va_up x.nP k (some pp0)) (k + 1) 1 j)))) (hS : va_S A s.heap H locs) (hl : lv_has ls 5 [(3, .int (nI (k + 1 + j))), (4, .int (nI (k + 2 + j))), (1, .int (nI k)), (0, .ref (ad 3))]), W p l e ({ frames := 1, cells := 0, slots := 0, locals := 0 } : Room) s m ([.ref (ad 3), .int (nI k), .ref pp0] : List Value).toArray below meth c H locs 0 0 (MQ below (va_Qv (fun (u9 : Unit) => True) (fun (u9 : Unit) t9 => bW D A (VW dA h ad (VS.s_npc (VS.s_nP x (sfT (va_up x.nP k (some pp0)) (k + 1) 1 (x.npc - (k + 2)))) (x.npc - 1))) t9) A) ([.ref (ad 3), .int (nI k), .ref pp0] : List Value).toArray s 0 0 A) (F0 m 21 ls []) := by
    intro k9
    induction k9 using Nat.strongRecOn with
    | ind k9 ih21 =>
      intro j i1 hk9 H locs ls hP hD hS hl
      refine lv_iload hx hb d_H_putTogether_21 (lv_at hl 1 rfl) ?_
      refine lv_aload_n hx hb d_H_putTogether_23 rfl (lv_at hl 3 rfl) ?_
      refine gF (v := .int (nI x.npc)) hx hb hown hE hK hP 17 rfl rfl layH 1 (by decide) w566 rfl d_H_putTogether_24 ?_
      refine lv_icmp_ge hx hb d_H_putTogether_27 (tgt := 52) rfl (fun g3 => ?_) (fun g3 => ?_)
      · have g3 := (nI_leI (a := x.npc) (b := k + 2 + j) (by omega) (by omega)).mp g3
        refine lv_aload_n hx hb d_H_putTogether_52 rfl (lv_at hl 3 rfl) ?_
        refine lv_iload_n hx hb d_H_putTogether_53 rfl (lv_at hl 0 rfl) ?_
        refine pF (v := .int (nI (k + 1 + j))) hx hb hown hE hK hP hD hS 17 rfl rfl layH tyH tokH nmH 1 (by decide) w566 rfl rfl rfl (Nat.le_of_ble_eq_true rfl) d_H_putTogether_54 (fun H locs hP hD hS => ?_)
        have hP : va_P D vwCl (VW dA h ad (VS.s_npc (VS.s_nP x (sfT (va_up x.nP k (some pp0)) (k + 1) 1 j)) (k + 1 + j))) H := hP
        have hD : va_D A (VW dA h ad (VS.s_npc (VS.s_nP x (sfT (va_up x.nP k (some pp0)) (k + 1) 1 j)) (k + 1 + j))) := hD
        have e9 : (VS.s_npc (VS.s_nP x (sfT (va_up x.nP k (some pp0)) (k + 1) 1 j)) (k + 1 + j) : VS) = VS.s_npc (VS.s_nP x (sfT (va_up x.nP k (some pp0)) (k + 1) 1 (x.npc - (k + 2)))) (x.npc - 1) := by rw [show (sfT (va_up x.nP k (some pp0)) (k + 1) 1 (x.npc - (k + 2))) = (sfT (va_up x.nP k (some pp0)) (k + 1) 1 j) from by (rw [show x.npc - (k + 2) = j by omega]), show (x.npc - 1) = (k + 1 + j) from by omega] <;> rfl
        exact rfV hx hb hr hlk hS () trivial (cvPv e9 hP) (cvDv e9 hD) (Nat.le_of_ble_eq_true rfl) (Nat.le_of_ble_eq_true rfl) d_H_putTogether_57
      · have g3 := mt (nI_leI (a := x.npc) (b := k + 2 + j) (by omega) (by omega)).mpr g3
        obtain ⟨pp, ke, hpp, hpk⟩ := hps (k + 2 + j) (by omega)
        have hpp0 := hpp
        obtain ⟨po, pt, pv, m1, m2, m3, m4⟩ := hpp
        have pk1 := hpk.1
        refine lv_aload_n hx hb d_H_putTogether_30 rfl (lv_at hl 3 rfl) ?_
        refine gF (v := .ref (ad 4)) hx hb hown hE hK hP 17 rfl rfl layH 0 (by decide) w199 rfl d_H_putTogether_31 ?_
        refine lv_iload_n hx hb d_H_putTogether_34 rfl (lv_at hl 0 rfl) ?_
        refine lv_aload_n hx hb d_H_putTogether_35 rfl (lv_at hl 3 rfl) ?_
        refine gF (v := .ref (ad 4)) hx hb hown hE hK hP 17 rfl rfl layH 0 (by decide) w199 rfl d_H_putTogether_36 ?_
        refine lv_iload hx hb d_H_putTogether_39 (lv_at hl 1 rfl) ?_
        refine nqld (f := (sfT (va_up x.nP k (some pp0)) (k + 1) 1 j)) (n := 32) hx hb hK hP (18) 4 rfl rfl (k + 2 + j) (by omega) (by decide) ((sfT_at _ (by omega)).trans (show (va_up x.nP k (some pp0)) (k + 2 + j) = some pp from by unfold va_up; rw [if_neg (by omega)]; exact ke)) d_H_putTogether_41 ?_
        obtain ⟨qp4, ep5⟩ := plv (dA := dA) (h := h) (ad := ad) (x := VS.s_nP x (sfT (va_up x.nP k (some pp0)) (k + 1) 1 j)) m1
        refine nqst (r := ("SeriesVault$Parcel", TC, 8)) (f := (sfT (va_up x.nP k (some pp0)) (k + 1) 1 j)) (n := 32) hx hb hK hP hD hS (18) 4 qp4 12 rfl rfl ep5 rfl (k + 1 + j) (by omega) (by decide) d_H_putTogether_42 (fun H locs hP hD hS => ?_)
        have hP : va_P D vwCl (VW dA h ad (VS.s_nP x (va_up (sfT (va_up x.nP k (some pp0)) (k + 1) 1 j) (k + 1 + j) (some pp)))) H := hP
        have hD : va_D A (VW dA h ad (VS.s_nP x (va_up (sfT (va_up x.nP k (some pp0)) (k + 1) 1 j) (k + 1 + j) (some pp)))) := hD
        refine lv_iinc (k := 0) (v := nI (k + 1 + j + 1)) hx hb d_H_putTogether_43 hl rfl (iincN (k + 1 + j) 1 1 (by decide)) (by decide) rfl (fun ls hl => ?_)
        have hl : lv_has ls 5 [(3, .int (nI (k + 1 + j + 1))), (4, .int (nI (k + 2 + j))), (1, .int (nI k)), (0, .ref (ad 3))] := hl
        refine lv_iinc (k := 1) (v := nI (k + 2 + j + 1)) hx hb d_H_putTogether_46 hl rfl (iincN (k + 2 + j) 1 1 (by decide)) (by decide) rfl (fun ls hl => ?_)
        have hl : lv_has ls 5 [(4, .int (nI (k + 2 + j + 1))), (3, .int (nI (k + 1 + j + 1))), (1, .int (nI k)), (0, .ref (ad 3))] := hl
        refine lv_goto hx hb d_H_putTogether_49 (tgt := 21) rfl ?_
        have e9 : (VS.s_nP x (va_up (sfT (va_up x.nP k (some pp0)) (k + 1) 1 j) (k + 1 + j) (some pp)) : VS) = VS.s_nP x (sfT (va_up x.nP k (some pp0)) (k + 1) 1 (j + 1)) := by rw [show (sfT (va_up x.nP k (some pp0)) (k + 1) 1 (j + 1)) = (va_up (sfT (va_up x.nP k (some pp0)) (k + 1) 1 j) (k + 1 + j) (some pp)) from (sfT_s (g := (va_up x.nP k (some pp0))) (st := (k + 1)) (d := 1) (n := j) (v := some pp) (by rw [show (k + 1) + j + 1 = k + 2 + j by omega]; exact (show (va_up x.nP k (some pp0)) (k + 2 + j) = some pp from by unfold va_up; rw [if_neg (by omega)]; exact ke).symm))] <;> rfl
        exact ih21 _ (by omega) (j + 1) (by omega) rfl H _ ls (cvPv e9 hP) (cvDv e9 hD) hS (lv_sub hl [1, 0, 2, 3] rfl)
  have e9 : (VS.s_nP x (va_up x.nP k (some pp0)) : VS) = VS.s_nP x (sfT (va_up x.nP k (some pp0)) (k + 1) 1 0) := by rw [show (sfT (va_up x.nP k (some pp0)) (k + 1) 1 0) = (va_up x.nP k (some pp0)) from (sfT_0 _ _ _)] <;> rfl
  exact L21 _ 0 (by omega) rfl H _ ls (cvPv e9 hP) (cvDv e9 hD) hS (lv_sub hl [1, 0, 3, 2] rfl)
theorem d_H_moveHorizon_19 : decode prog_9_method_9_code 19 = .ok (.aload_n 0, 1) := by decide +kernel
theorem d_H_moveHorizon_20 : decode prog_9_method_9_code 20 = .ok (.getfield 11, 3) := by decide +kernel
theorem d_H_moveHorizon_23 : decode prog_9_method_9_code 23 = .ok (.iload 4, 2) := by decide +kernel
theorem d_H_moveHorizon_25 : decode prog_9_method_9_code 25 = .ok (.aaload, 1) := by decide +kernel
theorem d_H_moveHorizon_26 : decode prog_9_method_9_code 26 = .ok (.getfield 62, 3) := by decide +kernel
theorem d_H_moveHorizon_29 : decode prog_9_method_9_code 29 = .ok (.lload_n 1, 1) := by decide +kernel
theorem d_H_moveHorizon_30 : decode prog_9_method_9_code 30 = .ok (.lcmp, 1) := by decide +kernel
theorem d_H_moveHorizon_31 : decode prog_9_method_9_code 31 = .ok (.ifCond .lt 19, 3) := by decide +kernel
theorem d_H_moveHorizon_50 : decode prog_9_method_9_code 50 = .ok (.iinc 4 1, 3) := by decide +kernel
theorem d_H_moveHorizon_53 : decode prog_9_method_9_code 53 = .ok (.goto (-43), 3) := by decide +kernel
theorem d_H_moveHorizon_34 : decode prog_9_method_9_code 34 = .ok (.aload_n 0, 1) := by decide +kernel
theorem d_H_moveHorizon_35 : decode prog_9_method_9_code 35 = .ok (.getfield 11, 3) := by decide +kernel
theorem d_H_moveHorizon_38 : decode prog_9_method_9_code 38 = .ok (.iload_n 3, 1) := by decide +kernel
theorem d_H_moveHorizon_39 : decode prog_9_method_9_code 39 = .ok (.aload_n 0, 1) := by decide +kernel
theorem d_H_moveHorizon_40 : decode prog_9_method_9_code 40 = .ok (.getfield 11, 3) := by decide +kernel
theorem d_H_moveHorizon_43 : decode prog_9_method_9_code 43 = .ok (.iload 4, 2) := by decide +kernel
theorem d_H_moveHorizon_45 : decode prog_9_method_9_code 45 = .ok (.aaload, 1) := by decide +kernel
theorem d_H_moveHorizon_46 : decode prog_9_method_9_code 46 = .ok (.aastore, 1) := by decide +kernel
theorem d_H_moveHorizon_47 : decode prog_9_method_9_code 47 = .ok (.iinc 3 1, 3) := by decide +kernel
theorem w1191 : Cond.fieldLinkNest "SeriesVault$Shelf" 62 "SeriesVault$Parcel" "newest" "J" "SeriesVault" ∈ aW := aw_of (tb_6 (List.mem_of_getElem? (i := 65) rfl)) rfl
set_option maxHeartbeats 4000000 in
set_option maxRecDepth 100000 in
theorem v_moveHorizon (l : Launch) (D : va_G) (dA : Nat → ClassId) (sz : Nat) (h : Nat) (ad : Nat → Nat) (x : VS) (PS : Nat → PT) (a : Int64) (hps : psOk dA x.nP x.npc x.pl PS) (hpn : x.npc ≤ 32) : Met l ⟨"SeriesVault$Shelf", "moveHorizon", "(J)V"⟩ [Cond.code ⟨"SeriesVault$Shelf", "moveHorizon", "(J)V"⟩ prog_9_method_9_code 5 none] { frames := 1, cells := 0, slots := 0, locals := 0 } (pC D dA [.ref (ad 3), .long a] (VW dA h ad x) sz) (va_Qv (fun (u9 : Unit) => True) (fun (u9 : Unit) t9 => bW D (va_A (VW dA h ad x) sz) (VW dA h ad (VS.s_nhor (VS.s_npc (VS.s_nP x (tdT (mhC PS a) x.nP x.npc)) (cnt x.npc (mhC PS a))) a)) t9) (va_A (VW dA h ad x) sz)) 0 0 (va_A (VW dA h ad x) sz) := by
  refine mkC (y := ⟨"SeriesVault$Shelf", "moveHorizon", "(J)V"⟩) (cc := prog_9_method_9_code) (maxL := 5) (av := [.ref (ad 3), .long a]) (ws := VW dA h ad x) (sz := sz) (Qc := fun A => va_Qv (fun (u9 : Unit) => True) (fun (u9 : Unit) t9 => bW D A (VW dA h ad (VS.s_nhor (VS.s_npc (VS.s_nP x (tdT (mhC PS a) x.nP x.npc)) (cnt x.npc (mhC PS a))) a)) t9) A) (by decide) (Nat.le_of_ble_eq_true rfl) ?_
  intro A p e s m below meth c ls hsz hB
  obtain ⟨hx, hb, hr, hml, hown, hin, hlk, hE, hK, hP, hD, hS, hA, hN, hl⟩ := hB
  have hown : s.vm.findClass "SeriesVault$Shelf" = some m.cls := hown
  have hl : lv_has ls 5 [(0, .ref (ad 3)), (1, .long a)] := hl
  obtain ⟨H, hH⟩ : ∃ z, z = s.heap := ⟨_, rfl⟩
  have hP : va_P D vwCl (VW dA h ad x) H := by rw [hH]; exact hP
  have hS : va_S A s.heap H [] := by rw [hH]; exact hS
  rw [← hH]
  refine lv_aload_n hx hb d_H_moveHorizon_0 rfl (lv_at hl 0 rfl) ?_
  refine lv_lload_n hx hb d_H_moveHorizon_1 rfl (lv_at hl 1 rfl) ?_
  refine pF (v := .long a) hx hb hown hE hK hP hD hS 17 rfl rfl layH tyH tokH nmH 7 (by decide) w568 rfl rfl rfl (Nat.le_of_ble_eq_true rfl) d_H_moveHorizon_2 (fun H locs hP hD hS => ?_)
  have hP : va_P D vwCl (VW dA h ad (VS.s_nhor x a)) H := hP
  have hD : va_D A (VW dA h ad (VS.s_nhor x a)) := hD
  refine lv_iconst (v := 0) hx hb d_H_moveHorizon_5 (by decide) ?_
  refine lv_istore_n hx hb d_H_moveHorizon_6 rfl hl (by decide) rfl (fun ls hl => ?_)
  have hl : lv_has ls 5 [(3, .int 0), (0, .ref (ad 3)), (1, .long a)] := hl
  refine lv_iconst (v := 0) hx hb d_H_moveHorizon_7 (by decide) ?_
  refine lv_istore hx hb d_H_moveHorizon_8 hl (by decide) rfl (fun ls hl => ?_)
  have hl : lv_has ls 5 [(4, .int 0), (3, .int 0), (0, .ref (ad 3)), (1, .long a)] := hl
  have L10 : ∀ (k9 : Nat) (k : Nat) (n : Nat) (i1 : k ≤ x.npc) (i2 : n = cnt k (mhC PS a)) (i3 : n ≤ k) (hk9 : x.npc - k = k9), ∀ (H : Heap) (locs : List Loc) (ls : Array Slot) (hP : va_P D vwCl (VW dA h ad (VS.s_nhor (VS.s_nP x (tdT (mhC PS a) x.nP k)) a)) H) (hD : va_D A (VW dA h ad (VS.s_nhor (VS.s_nP x (tdT (mhC PS a) x.nP k)) a))) (hS : va_S A s.heap H locs) (hl : lv_has ls 5 [(3, .int (nI n)), (4, .int (nI k)), (1, .long a), (0, .ref (ad 3))]), W p l e ({ frames := 1, cells := 0, slots := 0, locals := 0 } : Room) s m ([.ref (ad 3), .long a] : List Value).toArray below meth c H locs 0 0 (MQ below (va_Qv (fun (u9 : Unit) => True) (fun (u9 : Unit) t9 => bW D A (VW dA h ad (VS.s_nhor (VS.s_npc (VS.s_nP x (tdT (mhC PS a) x.nP x.npc)) (cnt x.npc (mhC PS a))) a)) t9) A) ([.ref (ad 3), .long a] : List Value).toArray s 0 0 A) (F0 m 10 ls []) := by
    intro k9
    induction k9 using Nat.strongRecOn with
    | ind k9 ih10 =>
      intro k n i1 i2 i3 hk9 H locs ls hP hD hS hl
      refine lv_iload hx hb d_H_moveHorizon_10 (lv_at hl 1 rfl) ?_
      refine lv_aload_n hx hb d_H_moveHorizon_12 rfl (lv_at hl 3 rfl) ?_
      refine gF (v := .int (nI x.npc)) hx hb hown hE hK hP 17 rfl rfl layH 1 (by decide) w566 rfl d_H_moveHorizon_13 ?_
      refine lv_icmp_ge hx hb d_H_moveHorizon_16 (tgt := 56) rfl (fun g1 => ?_) (fun g1 => ?_)
      · have g1 := (nI_leI (a := x.npc) (b := k) (by omega) (by omega)).mp g1
        refine lv_aload_n hx hb d_H_moveHorizon_56 rfl (lv_at hl 3 rfl) ?_
        refine lv_iload_n hx hb d_H_moveHorizon_57 rfl (lv_at hl 0 rfl) ?_
        refine pF (v := .int (nI n)) hx hb hown hE hK hP hD hS 17 rfl rfl layH tyH tokH nmH 1 (by decide) w566 rfl rfl rfl (Nat.le_of_ble_eq_true rfl) d_H_moveHorizon_58 (fun H locs hP hD hS => ?_)
        have hP : va_P D vwCl (VW dA h ad (VS.s_nhor (VS.s_npc (VS.s_nP x (tdT (mhC PS a) x.nP k)) n) a)) H := hP
        have hD : va_D A (VW dA h ad (VS.s_nhor (VS.s_npc (VS.s_nP x (tdT (mhC PS a) x.nP k)) n) a)) := hD
        have e9 : (VS.s_nhor (VS.s_npc (VS.s_nP x (tdT (mhC PS a) x.nP k)) n) a : VS) = VS.s_nhor (VS.s_npc (VS.s_nP x (tdT (mhC PS a) x.nP x.npc)) (cnt x.npc (mhC PS a))) a := by rw [show (tdT (mhC PS a) x.nP x.npc) = (tdT (mhC PS a) x.nP k) from by (rw [show x.npc = k by omega]), show (cnt x.npc (mhC PS a)) = n from by (rw [i2, show x.npc = k by omega])] <;> rfl
        exact rfV hx hb hr hlk hS () trivial (cvPv e9 hP) (cvDv e9 hD) (Nat.le_of_ble_eq_true rfl) (Nat.le_of_ble_eq_true rfl) d_H_moveHorizon_61
      · have g1 := mt (nI_leI (a := x.npc) (b := k) (by omega) (by omega)).mpr g1
        obtain ⟨pp, ke, hpp, hpk⟩ := hps k (by omega)
        have hpp0 := hpp
        obtain ⟨po, pt, pv, m1, m2, m3, m4⟩ := hpp
        have pk1 := hpk.1
        refine lv_aload_n hx hb d_H_moveHorizon_19 rfl (lv_at hl 3 rfl) ?_
        refine gF (v := .ref (ad 4)) hx hb hown hE hK hP 17 rfl rfl layH 0 (by decide) w199 rfl d_H_moveHorizon_20 ?_
        refine lv_iload hx hb d_H_moveHorizon_23 (lv_at hl 1 rfl) ?_
        refine nqld (f := (tdT (mhC PS a) x.nP k)) (n := 32) hx hb hK hP (18) 4 rfl rfl (k) (by omega) (by decide) ((tdT_at _ _ (Nat.le_refl k)).trans ke) d_H_moveHorizon_25 ?_
        obtain ⟨qp2, ep3⟩ := plv (dA := dA) (h := h) (ad := ad) (x := VS.s_nhor (VS.s_nP x (tdT (mhC PS a) x.nP k)) a) m1
        refine gFN (v := .long ((PS k).nw)) hx hb hown hE hK hP qp2 ep3 rfl layC 7 (by decide) w1191 rfl d_H_moveHorizon_26 ?_
        refine lv_lload_n hx hb d_H_moveHorizon_29 rfl (lv_at hl 2 rfl) ?_
        refine W.lcmp hx hb d_H_moveHorizon_30 ?_
        refine lv_if_lt hx hb d_H_moveHorizon_31 (tgt := 50) rfl (fun g4 => ?_) (fun g4 => ?_)
        · have g4 := (lg_cmp_lt _ _).mp g4
          refine lv_iinc (k := 1) (v := nI (k + 1)) hx hb d_H_moveHorizon_50 hl rfl (iincN (k) 1 1 (by decide)) (by decide) rfl (fun ls hl => ?_)
          have hl : lv_has ls 5 [(4, .int (nI (k + 1))), (3, .int (nI n)), (1, .long a), (0, .ref (ad 3))] := hl
          refine lv_goto hx hb d_H_moveHorizon_53 (tgt := 10) rfl ?_
          have e9 : (VS.s_nhor (VS.s_nP x (tdT (mhC PS a) x.nP k)) a : VS) = VS.s_nhor (VS.s_nP x (tdT (mhC PS a) x.nP (k + 1))) a := by rw [show (tdT (mhC PS a) x.nP (k + 1)) = (tdT (mhC PS a) x.nP k) from (tdT_f (c := mhC PS a) (show mhC PS a k = false by unfold mhC; rw [decide_eq_true g4]; rfl))] <;> rfl
          exact ih10 _ (by omega) (k + 1) n (by omega) (by rw [cnt_f (show mhC PS a k = false by unfold mhC; rw [decide_eq_true g4]; rfl), i2]) (by omega) rfl H _ ls (cvPv e9 hP) (cvDv e9 hD) hS (lv_sub hl [1, 0, 2, 3] rfl)
        · have g4 := mt (lg_cmp_lt _ _).mpr g4
          refine lv_aload_n hx hb d_H_moveHorizon_34 rfl (lv_at hl 3 rfl) ?_
          refine gF (v := .ref (ad 4)) hx hb hown hE hK hP 17 rfl rfl layH 0 (by decide) w199 rfl d_H_moveHorizon_35 ?_
          refine lv_iload_n hx hb d_H_moveHorizon_38 rfl (lv_at hl 0 rfl) ?_
          refine lv_aload_n hx hb d_H_moveHorizon_39 rfl (lv_at hl 3 rfl) ?_
          refine gF (v := .ref (ad 4)) hx hb hown hE hK hP 17 rfl rfl layH 0 (by decide) w199 rfl d_H_moveHorizon_40 ?_
          refine lv_iload hx hb d_H_moveHorizon_43 (lv_at hl 1 rfl) ?_
          refine nqld (f := (tdT (mhC PS a) x.nP k)) (n := 32) hx hb hK hP (18) 4 rfl rfl (k) (by omega) (by decide) ((tdT_at _ _ (Nat.le_refl k)).trans ke) d_H_moveHorizon_45 ?_
          obtain ⟨qp5, ep6⟩ := plv (dA := dA) (h := h) (ad := ad) (x := VS.s_nhor (VS.s_nP x (tdT (mhC PS a) x.nP k)) a) m1
          refine nqst (r := ("SeriesVault$Parcel", TC, 8)) (f := (tdT (mhC PS a) x.nP k)) (n := 32) hx hb hK hP hD hS (18) 4 qp5 12 rfl rfl ep6 rfl (n) (by omega) (by decide) d_H_moveHorizon_46 (fun H locs hP hD hS => ?_)
          have hP : va_P D vwCl (VW dA h ad (VS.s_nhor (VS.s_nP x (va_up (tdT (mhC PS a) x.nP k) n (some pp))) a)) H := hP
          have hD : va_D A (VW dA h ad (VS.s_nhor (VS.s_nP x (va_up (tdT (mhC PS a) x.nP k) n (some pp))) a)) := hD
          refine lv_iinc (k := 0) (v := nI (n + 1)) hx hb d_H_moveHorizon_47 hl rfl (iincN (n) 1 1 (by decide)) (by decide) rfl (fun ls hl => ?_)
          have hl : lv_has ls 5 [(3, .int (nI (n + 1))), (4, .int (nI k)), (1, .long a), (0, .ref (ad 3))] := hl
          refine lv_iinc (k := 1) (v := nI (k + 1)) hx hb d_H_moveHorizon_50 hl rfl (iincN (k) 1 1 (by decide)) (by decide) rfl (fun ls hl => ?_)
          have hl : lv_has ls 5 [(4, .int (nI (k + 1))), (3, .int (nI (n + 1))), (1, .long a), (0, .ref (ad 3))] := hl
          refine lv_goto hx hb d_H_moveHorizon_53 (tgt := 10) rfl ?_
          have e9 : (VS.s_nhor (VS.s_nP x (va_up (tdT (mhC PS a) x.nP k) n (some pp))) a : VS) = VS.s_nhor (VS.s_nP x (tdT (mhC PS a) x.nP (k + 1))) a := by rw [show (tdT (mhC PS a) x.nP (k + 1)) = (va_up (tdT (mhC PS a) x.nP k) n (some pp)) from (by rw [tdT_t (c := mhC PS a) (show mhC PS a k = true by unfold mhC; rw [decide_eq_false g4]; rfl) ke.symm, i2])] <;> rfl
          exact ih10 _ (by omega) (k + 1) (n + 1) (by omega) (by rw [cnt_t (show mhC PS a k = true by unfold mhC; rw [decide_eq_false g4]; rfl), i2]) (by omega) rfl H _ ls (cvPv e9 hP) (cvDv e9 hD) hS (lv_sub hl [1, 0, 2, 3] rfl)
  have e9 : (VS.s_nhor x a : VS) = VS.s_nhor (VS.s_nP x (tdT (mhC PS a) x.nP 0)) a := by rw [show (tdT (mhC PS a) x.nP 0) = x.nP from rfl] <;> rfl
  exact L10 _ 0 0 (Nat.zero_le _) rfl (Nat.le_refl _) rfl H _ ls (cvPv e9 hP) (cvDv e9 hD) hS (lv_sub hl [1, 0, 3, 2] rfl)
theorem d_H_countPointsOfScars_0 : decode prog_9_method_13_code 0 = .ok (.iconst 0, 1) := by decide +kernel
theorem d_H_countPointsOfScars_1 : decode prog_9_method_13_code 1 = .ok (.istore_n 2, 1) := by decide +kernel
theorem d_H_countPointsOfScars_2 : decode prog_9_method_13_code 2 = .ok (.iload_n 2, 1) := by decide +kernel
theorem d_H_countPointsOfScars_3 : decode prog_9_method_13_code 3 = .ok (.aload_n 1, 1) := by decide +kernel
theorem d_H_countPointsOfScars_4 : decode prog_9_method_13_code 4 = .ok (.getfield 84, 3) := by decide +kernel
theorem d_H_countPointsOfScars_7 : decode prog_9_method_13_code 7 = .ok (.if_icmp .ge 41, 3) := by decide +kernel
theorem d_H_countPointsOfScars_48 : decode prog_9_method_13_code 48 = .ok (.return_, 1) := by decide +kernel
theorem d_H_countPointsOfScars_10 : decode prog_9_method_13_code 10 = .ok (.aload_n 0, 1) := by decide +kernel
theorem d_H_countPointsOfScars_11 : decode prog_9_method_13_code 11 = .ok (.aload_n 1, 1) := by decide +kernel
theorem d_H_countPointsOfScars_12 : decode prog_9_method_13_code 12 = .ok (.getfield 87, 3) := by decide +kernel
theorem d_H_countPointsOfScars_15 : decode prog_9_method_13_code 15 = .ok (.iload_n 2, 1) := by decide +kernel
theorem d_H_countPointsOfScars_16 : decode prog_9_method_13_code 16 = .ok (.iaload, 1) := by decide +kernel
theorem d_H_countPointsOfScars_17 : decode prog_9_method_13_code 17 = .ok (.aload_n 1, 1) := by decide +kernel
theorem d_H_countPointsOfScars_18 : decode prog_9_method_13_code 18 = .ok (.getfield 90, 3) := by decide +kernel
theorem d_H_countPointsOfScars_21 : decode prog_9_method_13_code 21 = .ok (.iload_n 2, 1) := by decide +kernel
theorem d_H_countPointsOfScars_22 : decode prog_9_method_13_code 22 = .ok (.laload, 1) := by decide +kernel
theorem d_H_countPointsOfScars_23 : decode prog_9_method_13_code 23 = .ok (.invokevirtual 93, 3) := by decide +kernel
theorem d_H_countPointsOfScars_26 : decode prog_9_method_13_code 26 = .ok (.istore_n 3, 1) := by decide +kernel
theorem d_H_countPointsOfScars_27 : decode prog_9_method_13_code 27 = .ok (.iload_n 3, 1) := by decide +kernel
theorem d_H_countPointsOfScars_28 : decode prog_9_method_13_code 28 = .ok (.iconst (-1), 1) := by decide +kernel
theorem d_H_countPointsOfScars_29 : decode prog_9_method_13_code 29 = .ok (.if_icmp .eq 13, 3) := by decide +kernel
theorem d_H_countPointsOfScars_42 : decode prog_9_method_13_code 42 = .ok (.iinc 2 1, 3) := by decide +kernel
theorem d_H_countPointsOfScars_45 : decode prog_9_method_13_code 45 = .ok (.goto (-43), 3) := by decide +kernel
theorem d_H_countPointsOfScars_32 : decode prog_9_method_13_code 32 = .ok (.aload_n 0, 1) := by decide +kernel
theorem d_H_countPointsOfScars_33 : decode prog_9_method_13_code 33 = .ok (.getfield 28, 3) := by decide +kernel
theorem d_H_countPointsOfScars_36 : decode prog_9_method_13_code 36 = .ok (.iload_n 3, 1) := by decide +kernel
theorem d_H_countPointsOfScars_37 : decode prog_9_method_13_code 37 = .ok (.dup2, 1) := by decide +kernel
theorem d_H_countPointsOfScars_38 : decode prog_9_method_13_code 38 = .ok (.iaload, 1) := by decide +kernel
theorem d_H_countPointsOfScars_39 : decode prog_9_method_13_code 39 = .ok (.iconst 1, 1) := by decide +kernel
theorem d_H_countPointsOfScars_40 : decode prog_9_method_13_code 40 = .ok (.iadd, 1) := by decide +kernel
theorem d_H_countPointsOfScars_41 : decode prog_9_method_13_code 41 = .ok (.iastore, 1) := by decide +kernel
set_option maxHeartbeats 4000000 in
set_option maxRecDepth 100000 in
theorem v_countPointsOfScars (l : Launch) (D : va_G) (dA : Nat → ClassId) (sz : Nat) (h : Nat) (ad : Nat → Nat) (x : VS) (pp : Nat) (P : PT) (hpp : isPc dA x.pl pp P) (hpk : pcOk P) (h1 : x.nsc ≤ 64) (h7 : ∀ q : Nat, q < x.nsc → x.nsO q < 2 ^ 31) : Met l ⟨"SeriesVault$Shelf", "countPointsOfScars", "(LSeriesVault$Parcel;)V"⟩ [Cond.code ⟨"SeriesVault$Shelf", "countPointsOfScars", "(LSeriesVault$Parcel;)V"⟩ prog_9_method_13_code 4 none] { frames := 2, cells := 0, slots := 0, locals := 24 } (pC D dA [.ref (ad 3), .ref pp] (VW dA h ad x) sz) (va_Qv (fun (u9 : Unit) => True) (fun (u9 : Unit) t9 => bW D (va_A (VW dA h ad x) sz) (VW dA h ad (VS.s_nsP x (spK (x.scI P) x.nsP P.n))) t9) (va_A (VW dA h ad x) sz)) 0 0 (va_A (VW dA h ad x) sz) := by
  refine mkC (y := ⟨"SeriesVault$Shelf", "countPointsOfScars", "(LSeriesVault$Parcel;)V"⟩) (cc := prog_9_method_13_code) (maxL := 4) (av := [.ref (ad 3), .ref pp]) (ws := VW dA h ad x) (sz := sz) (Qc := fun A => va_Qv (fun (u9 : Unit) => True) (fun (u9 : Unit) t9 => bW D A (VW dA h ad (VS.s_nsP x (spK (x.scI P) x.nsP P.n))) t9) A) (by decide) (Nat.le_of_ble_eq_true rfl) ?_
  intro A p e s m below meth c ls hsz hB
  obtain ⟨hx, hb, hr, hml, hown, hin, hlk, hE, hK, hP, hD, hS, hA, hN, hl⟩ := hB
  have hown : s.vm.findClass "SeriesVault$Shelf" = some m.cls := hown
  have hl : lv_has ls 4 [(0, .ref (ad 3)), (1, .ref pp)] := hl
  obtain ⟨H, hH⟩ : ∃ z, z = s.heap := ⟨_, rfl⟩
  have hP : va_P D vwCl (VW dA h ad x) H := by rw [hH]; exact hP
  have hS : va_S A s.heap H [] := by rw [hH]; exact hS
  rw [← hH]
  have pk1 := hpk.1
  have pk2 := hpk.2
  have hpp0 := hpp
  obtain ⟨po, pt, pv, m1, m2, m3, m4⟩ := hpp
  refine lv_iconst (v := 0) hx hb d_H_countPointsOfScars_0 (by decide) ?_
  refine lv_istore_n hx hb d_H_countPointsOfScars_1 rfl hl (by decide) rfl (fun ls hl => ?_)
  have hl : lv_has ls 4 [(2, .int 0), (0, .ref (ad 3)), (1, .ref pp)] := hl
  have L2 : ∀ (k9 : Nat) (i : Nat) (i1 : i ≤ P.n) (hk9 : P.n - i = k9), ∀ (H : Heap) (locs : List Loc) (ls : Array Slot) (hP : va_P D vwCl (VW dA h ad (VS.s_nsP x (spK (x.scI P) x.nsP i))) H) (hD : va_D A (VW dA h ad (VS.s_nsP x (spK (x.scI P) x.nsP i)))) (hS : va_S A s.heap H locs) (hl : lv_has ls 4 [(2, .int (nI i)), (1, .ref pp), (0, .ref (ad 3))]), W p l e ({ frames := 2, cells := 0, slots := 0, locals := 24 } : Room) s m ([.ref (ad 3), .ref pp] : List Value).toArray below meth c H locs 0 0 (MQ below (va_Qv (fun (u9 : Unit) => True) (fun (u9 : Unit) t9 => bW D A (VW dA h ad (VS.s_nsP x (spK (x.scI P) x.nsP P.n))) t9) A) ([.ref (ad 3), .ref pp] : List Value).toArray s 0 0 A) (F0 m 2 ls []) := by
    intro k9
    induction k9 using Nat.strongRecOn with
    | ind k9 ih2 =>
      intro i i1 hk9 H locs ls hP hD hS hl
      refine lv_iload_n hx hb d_H_countPointsOfScars_2 rfl (lv_at hl 0 rfl) ?_
      refine lv_aload_n hx hb d_H_countPointsOfScars_3 rfl (lv_at hl 1 rfl) ?_
      obtain ⟨qp1, ep2⟩ := plv (dA := dA) (h := h) (ad := ad) (x := VS.s_nsP x (spK (x.scI P) x.nsP i)) m1
      refine gFN (v := .int (nI P.n)) hx hb hown hE hK hP qp1 ep2 rfl layC 3 (by decide) w1176 rfl d_H_countPointsOfScars_4 ?_
      refine lv_icmp_ge hx hb d_H_countPointsOfScars_7 (tgt := 48) rfl (fun g3 => ?_) (fun g3 => ?_)
      · have g3 := (nI_leI (a := P.n) (b := i) (by omega) (by omega)).mp g3
        have e9 : (VS.s_nsP x (spK (x.scI P) x.nsP i) : VS) = VS.s_nsP x (spK (x.scI P) x.nsP P.n) := by rw [show (spK (x.scI P) x.nsP P.n) = (spK (x.scI P) x.nsP i) from by (rw [show P.n = i by omega])] <;> rfl
        exact rfV hx hb hr hlk hS () trivial (cvPv e9 hP) (cvDv e9 hD) (Nat.le_of_ble_eq_true rfl) (Nat.le_of_ble_eq_true rfl) d_H_countPointsOfScars_48
      · have g3 := mt (nI_leI (a := P.n) (b := i) (by omega) (by omega)).mpr g3
        have pk3 := pk2 i (by omega)
        rcases hsc : x.sc1 (P.o i) (P.t i) with _ | q
        · have pk3 := pk2 i (by omega)
          refine lv_aload_n hx hb d_H_countPointsOfScars_10 rfl (lv_at hl 2 rfl) ?_
          refine lv_aload_n hx hb d_H_countPointsOfScars_11 rfl (lv_at hl 1 rfl) ?_
          obtain ⟨qp4, ep5⟩ := plv (dA := dA) (h := h) (ad := ad) (x := VS.s_nsP x (spK (x.scI P) x.nsP i)) m1
          refine gFN (v := .ref po) hx hb hown hE hK hP qp4 ep5 rfl layC 0 (by decide) w1171 rfl d_H_countPointsOfScars_12 ?_
          refine lv_iload_n hx hb d_H_countPointsOfScars_15 rfl (lv_at hl 0 rfl) ?_
          obtain ⟨qp6, ep7⟩ := plv (dA := dA) (h := h) (ad := ad) (x := VS.s_nsP x (spK (x.scI P) x.nsP i)) m2
          refine nild (f := (fun k => nI (P.o k))) (n := P.n) hx hb hK hP qp6 1 ep7 rfl (i) (by omega) (by omega) d_H_countPointsOfScars_16 ?_
          refine lv_aload_n hx hb d_H_countPointsOfScars_17 rfl (lv_at hl 1 rfl) ?_
          obtain ⟨qp8, ep9⟩ := plv (dA := dA) (h := h) (ad := ad) (x := VS.s_nsP x (spK (x.scI P) x.nsP i)) m1
          refine gFN (v := .ref pt) hx hb hown hE hK hP qp8 ep9 rfl layC 1 (by decide) w1170 rfl d_H_countPointsOfScars_18 ?_
          refine lv_iload_n hx hb d_H_countPointsOfScars_21 rfl (lv_at hl 0 rfl) ?_
          obtain ⟨qp10, ep11⟩ := plv (dA := dA) (h := h) (ad := ad) (x := VS.s_nsP x (spK (x.scI P) x.nsP i)) m3
          refine nlld (f := P.t) (n := P.n) hx hb hK hP qp10 2 ep11 rfl (i) (by omega) (by omega) d_H_countPointsOfScars_22 ?_
          refine jfI (rnV (As := [.int (nI (P.o i)), .long (P.t i)]) (rest := []) hx hb hml hown hE hK (hN _ _ hS) hP hD (v_scarOf l D dA H.size h ad (VS.s_nsP x (spK (x.scI P) x.nsP i)) (P.o i) (P.t i) (show x.nsc ≤ 64 from by omega) (show (P.o i) < 2 ^ 31 from by omega) h7) (q0 := 17) rfl rfl w1173 w1172 w1174 w1175 w583 rfl rfl ⟨⟨by decide, by decide⟩, rfl⟩ ⟨(Nat.le_of_ble_eq_true rfl), (Nat.le_of_ble_eq_true rfl)⟩ rfl hl.1 rfl (Nat.le_of_ble_eq_true rfl) d_H_countPointsOfScars_23 ⟨(Nat.le_of_ble_eq_true rfl), (Nat.le_of_ble_eq_true rfl)⟩) hP hD hS hA (fun r12 u13 H locs hp9 hP hD hS => ?_)
          have hP : va_P D vwCl (VW dA h ad (VS.s_nsP x (spK (x.scI P) x.nsP i))) H := hP
          have hD : va_D A (VW dA h ad (VS.s_nsP x (spK (x.scI P) x.nsP i))) := hD
          replace hp9 : opI (x.sc1 (P.o i) (P.t i)) = r12 := Eq.symm hp9
          subst hp9
          refine tpi (y := (-1)) (by rw [hsc]; rfl) ?_
          refine lv_istore_n hx hb d_H_countPointsOfScars_26 rfl hl (by decide) rfl (fun ls hl => ?_)
          have hl : lv_has ls 4 [(3, .int (-1)), (2, .int (nI i)), (1, .ref pp), (0, .ref (ad 3))] := hl
          refine lv_iload_n hx hb d_H_countPointsOfScars_27 rfl (lv_at hl 0 rfl) ?_
          refine lv_iconst (v := (-1)) hx hb d_H_countPointsOfScars_28 (by decide) ?_
          refine lv_icmp_eq hx hb d_H_countPointsOfScars_29 (tgt := 42) rfl (fun _ => ?_) (fun h9 => absurd (by decide) h9)
          refine lv_iinc (k := 1) (v := nI (i + 1)) hx hb d_H_countPointsOfScars_42 hl rfl (iincN (i) 1 1 (by decide)) (by decide) rfl (fun ls hl => ?_)
          have hl : lv_has ls 4 [(2, .int (nI (i + 1))), (3, .int (-1)), (1, .ref pp), (0, .ref (ad 3))] := hl
          refine lv_goto hx hb d_H_countPointsOfScars_45 (tgt := 2) rfl ?_
          have e9 : (VS.s_nsP x (spK (x.scI P) x.nsP i) : VS) = VS.s_nsP x (spK (x.scI P) x.nsP (i + 1)) := by rw [show (spK (x.scI P) x.nsP (i + 1)) = (spK (x.scI P) x.nsP i) from (spK_n (sc := x.scI P) hsc)] <;> rfl
          exact ih2 _ (by omega) (i + 1) (by omega) rfl H _ ls (cvPv e9 hP) (cvDv e9 hD) hS (lv_sub hl [0, 2, 3] rfl)
        · have pk3 := pk2 i (by omega)
          refine lv_aload_n hx hb d_H_countPointsOfScars_10 rfl (lv_at hl 2 rfl) ?_
          refine lv_aload_n hx hb d_H_countPointsOfScars_11 rfl (lv_at hl 1 rfl) ?_
          obtain ⟨qp14, ep15⟩ := plv (dA := dA) (h := h) (ad := ad) (x := VS.s_nsP x (spK (x.scI P) x.nsP i)) m1
          refine gFN (v := .ref po) hx hb hown hE hK hP qp14 ep15 rfl layC 0 (by decide) w1171 rfl d_H_countPointsOfScars_12 ?_
          refine lv_iload_n hx hb d_H_countPointsOfScars_15 rfl (lv_at hl 0 rfl) ?_
          obtain ⟨qp16, ep17⟩ := plv (dA := dA) (h := h) (ad := ad) (x := VS.s_nsP x (spK (x.scI P) x.nsP i)) m2
          refine nild (f := (fun k => nI (P.o k))) (n := P.n) hx hb hK hP qp16 1 ep17 rfl (i) (by omega) (by omega) d_H_countPointsOfScars_16 ?_
          refine lv_aload_n hx hb d_H_countPointsOfScars_17 rfl (lv_at hl 1 rfl) ?_
          obtain ⟨qp18, ep19⟩ := plv (dA := dA) (h := h) (ad := ad) (x := VS.s_nsP x (spK (x.scI P) x.nsP i)) m1
          refine gFN (v := .ref pt) hx hb hown hE hK hP qp18 ep19 rfl layC 1 (by decide) w1170 rfl d_H_countPointsOfScars_18 ?_
          refine lv_iload_n hx hb d_H_countPointsOfScars_21 rfl (lv_at hl 0 rfl) ?_
          obtain ⟨qp20, ep21⟩ := plv (dA := dA) (h := h) (ad := ad) (x := VS.s_nsP x (spK (x.scI P) x.nsP i)) m3
          refine nlld (f := P.t) (n := P.n) hx hb hK hP qp20 2 ep21 rfl (i) (by omega) (by omega) d_H_countPointsOfScars_22 ?_
          refine jfI (rnV (As := [.int (nI (P.o i)), .long (P.t i)]) (rest := []) hx hb hml hown hE hK (hN _ _ hS) hP hD (v_scarOf l D dA H.size h ad (VS.s_nsP x (spK (x.scI P) x.nsP i)) (P.o i) (P.t i) (show x.nsc ≤ 64 from by omega) (show (P.o i) < 2 ^ 31 from by omega) h7) (q0 := 17) rfl rfl w1173 w1172 w1174 w1175 w583 rfl rfl ⟨⟨by decide, by decide⟩, rfl⟩ ⟨(Nat.le_of_ble_eq_true rfl), (Nat.le_of_ble_eq_true rfl)⟩ rfl hl.1 rfl (Nat.le_of_ble_eq_true rfl) d_H_countPointsOfScars_23 ⟨(Nat.le_of_ble_eq_true rfl), (Nat.le_of_ble_eq_true rfl)⟩) hP hD hS hA (fun r22 u23 H locs hp9 hP hD hS => ?_)
          have hP : va_P D vwCl (VW dA h ad (VS.s_nsP x (spK (x.scI P) x.nsP i))) H := hP
          have hD : va_D A (VW dA h ad (VS.s_nsP x (spK (x.scI P) x.nsP i))) := hD
          replace hp9 : opI (x.sc1 (P.o i) (P.t i)) = r22 := Eq.symm hp9
          subst hp9
          refine tpi (y := nI q) (by rw [hsc]; rfl) ?_
          refine lv_istore_n hx hb d_H_countPointsOfScars_26 rfl hl (by decide) rfl (fun ls hl => ?_)
          have hl : lv_has ls 4 [(3, .int (nI q)), (2, .int (nI i)), (1, .ref pp), (0, .ref (ad 3))] := hl
          have q64 : q < 64 := by have := frst_lt hsc; omega
          refine lv_iload_n hx hb d_H_countPointsOfScars_27 rfl (lv_at hl 0 rfl) ?_
          refine lv_iconst (v := (-1)) hx hb d_H_countPointsOfScars_28 (by decide) ?_
          refine lv_icmp_eq hx hb d_H_countPointsOfScars_29 (tgt := 42) rfl (fun h9 => absurd h9 (nI_nm (by omega))) (fun _ => ?_)
          refine lv_aload_n hx hb d_H_countPointsOfScars_32 rfl (lv_at hl 3 rfl) ?_
          refine gF (v := .ref (ad 8)) hx hb hown hE hK hP 17 rfl rfl layH 5 (by decide) w203 rfl d_H_countPointsOfScars_33 ?_
          refine lv_iload_n hx hb d_H_countPointsOfScars_36 rfl (lv_at hl 0 rfl) ?_
          refine lv_dup2_11 hx hb d_H_countPointsOfScars_37 rfl rfl ?_
          refine nild (f := (fun z9 => nI ((spK (x.scI P) x.nsP i) z9))) (n := 64) hx hb hK hP 22 1 rfl rfl (q) (by omega) (by decide) d_H_countPointsOfScars_38 ?_
          refine lv_iconst (v := 1) hx hb d_H_countPointsOfScars_39 (by decide) ?_
          refine lv_iadd hx hb d_H_countPointsOfScars_40 (tpi (y := nI (((spK (x.scI P) x.nsP i) q) + 1)) (nI_add ((spK (x.scI P) x.nsP i) q) (1)) ?_)
          refine nistN (v := ((spK (x.scI P) x.nsP i) q) + 1) (n := 64) hx hb hK hP hD hS 22 1 rfl rfl (q) (by omega) (by decide) d_H_countPointsOfScars_41 (fun H locs hP hD hS => ?_)
          have hP : va_P D vwCl (VW dA h ad (VS.s_nsP x (va_up (spK (x.scI P) x.nsP i) q (((spK (x.scI P) x.nsP i) q) + 1)))) H := hP
          have hD : va_D A (VW dA h ad (VS.s_nsP x (va_up (spK (x.scI P) x.nsP i) q (((spK (x.scI P) x.nsP i) q) + 1)))) := hD
          refine lv_iinc (k := 1) (v := nI (i + 1)) hx hb d_H_countPointsOfScars_42 hl rfl (iincN (i) 1 1 (by decide)) (by decide) rfl (fun ls hl => ?_)
          have hl : lv_has ls 4 [(2, .int (nI (i + 1))), (3, .int (nI q)), (1, .ref pp), (0, .ref (ad 3))] := hl
          refine lv_goto hx hb d_H_countPointsOfScars_45 (tgt := 2) rfl ?_
          have e9 : (VS.s_nsP x (va_up (spK (x.scI P) x.nsP i) q (((spK (x.scI P) x.nsP i) q) + 1)) : VS) = VS.s_nsP x (spK (x.scI P) x.nsP (i + 1)) := by rw [show (spK (x.scI P) x.nsP (i + 1)) = (va_up (spK (x.scI P) x.nsP i) q (((spK (x.scI P) x.nsP i) q) + 1)) from (spK_s (sc := x.scI P) hsc)] <;> rfl
          exact ih2 _ (by omega) (i + 1) (by omega) rfl H _ ls (cvPv e9 hP) (cvDv e9 hD) hS (lv_sub hl [0, 2, 3] rfl)
  have e9 : (x : VS) = VS.s_nsP x (spK (x.scI P) x.nsP 0) := by rw [show (spK (x.scI P) x.nsP 0) = x.nsP from rfl] <;> rfl
  exact L2 _ 0 (Nat.zero_le _) rfl H _ ls (cvPv e9 hP) (cvDv e9 hD) hS (lv_sub hl [0, 2, 1] rfl)
set_option maxHeartbeats 4000000 in
set_option maxRecDepth 100000 in
theorem v_fillNsP (l : Launch) (D : va_G) (dA : Nat → ClassId) (sz : Nat) (h : Nat) (ad : Nat → Nat) (x : VS) : Met l ⟨"java/util/Arrays", "fill", "([II)V"⟩ [Cond.code ⟨"java/util/Arrays", "fill", "([II)V"⟩ prog_38_method_103_code 4 none] { frames := 1, cells := 0, slots := 0, locals := 0 } (pC D dA [.ref (ad 8), .int 0] (VW dA h ad x) sz) (va_Qv (fun (u9 : Unit) => True) (fun (u9 : Unit) t9 => bW D (va_A (VW dA h ad x) sz) (VW dA h ad (VS.s_nsP x (filG x.nsP 0 0 64))) t9) (va_A (VW dA h ad x) sz)) 0 0 (va_A (VW dA h ad x) sz) := by
  refine mkC (y := ⟨"java/util/Arrays", "fill", "([II)V"⟩) (cc := prog_38_method_103_code) (maxL := 4) (av := [.ref (ad 8), .int 0]) (ws := VW dA h ad x) (sz := sz) (Qc := fun A => va_Qv (fun (u9 : Unit) => True) (fun (u9 : Unit) t9 => bW D A (VW dA h ad (VS.s_nsP x (filG x.nsP 0 0 64))) t9) A) (by decide) (Nat.le_of_ble_eq_true rfl) ?_
  intro A p e s m below meth c ls hsz hB
  obtain ⟨hx, hb, hr, hml, hown, hin, hlk, hE, hK, hP, hD, hS, hA, hN, hl⟩ := hB
  have hown : s.vm.findClass "java/util/Arrays" = some m.cls := hown
  have hl : lv_has ls 4 [(0, .ref (ad 8)), (1, .int 0)] := hl
  obtain ⟨H, hH⟩ : ∃ z, z = s.heap := ⟨_, rfl⟩
  have hP : va_P D vwCl (VW dA h ad x) H := by rw [hH]; exact hP
  have hS : va_S A s.heap H [] := by rw [hH]; exact hS
  rw [← hH]
  refine lv_iconst (v := 0) hx hb d_Arrays_fill_f26_0 (by decide) ?_
  refine lv_istore_n hx hb d_Arrays_fill_f26_1 rfl hl (by decide) rfl (fun ls hl => ?_)
  have hl : lv_has ls 4 [(2, .int 0), (0, .ref (ad 8)), (1, .int 0)] := hl
  refine lv_aload_n hx hb d_Arrays_fill_f26_2 rfl (lv_at hl 1 rfl) ?_
  refine va_alen (v := 64) hx hb hK hP (22) 1 rfl rfl rfl d_Arrays_fill_f26_3 ?_
  refine lv_istore_n hx hb d_Arrays_fill_f26_4 rfl hl (by decide) rfl (fun ls hl => ?_)
  have hl : lv_has ls 4 [(3, .int 64), (2, .int 0), (0, .ref (ad 8)), (1, .int 0)] := hl
  have L5 : ∀ (k9 : Nat) (k : Nat) (i1 : k ≤ 64) (hk9 : 64 - k = k9), ∀ (H : Heap) (locs : List Loc) (ls : Array Slot) (hP : va_P D vwCl (VW dA h ad (VS.s_nsP x (filG x.nsP 0 0 k))) H) (hD : va_D A (VW dA h ad (VS.s_nsP x (filG x.nsP 0 0 k)))) (hS : va_S A s.heap H locs) (hl : lv_has ls 4 [(2, .int (nI k)), (3, .int 64), (0, .ref (ad 8)), (1, .int 0)]), W p l e ({ frames := 1, cells := 0, slots := 0, locals := 0 } : Room) s m ([.ref (ad 8), .int 0] : List Value).toArray below meth c H locs 0 0 (MQ below (va_Qv (fun (u9 : Unit) => True) (fun (u9 : Unit) t9 => bW D A (VW dA h ad (VS.s_nsP x (filG x.nsP 0 0 64))) t9) A) ([.ref (ad 8), .int 0] : List Value).toArray s 0 0 A) (F0 m 5 ls []) := by
    intro k9
    induction k9 using Nat.strongRecOn with
    | ind k9 ih5 =>
      intro k i1 hk9 H locs ls hP hD hS hl
      refine lv_iload_n hx hb d_Arrays_fill_f26_5 rfl (lv_at hl 0 rfl) ?_
      refine lv_iload_n hx hb d_Arrays_fill_f26_6 rfl (lv_at hl 1 rfl) ?_
      refine lv_icmp_ge hx hb d_Arrays_fill_f26_7 (tgt := 20) rfl (fun g1 => ?_) (fun g1 => ?_)
      · have g1 := (nI_leI (a := 64) (b := k) (by omega) (by omega)).mp g1
        have e9 : (VS.s_nsP x (filG x.nsP 0 0 k) : VS) = VS.s_nsP x (filG x.nsP 0 0 64) := by rw [show (filG x.nsP 0 0 64) = (filG x.nsP 0 0 k) from by (rw [show k = 64 by omega])] <;> rfl
        exact rfV hx hb hr hlk hS () trivial (cvPv e9 hP) (cvDv e9 hD) (Nat.le_of_ble_eq_true rfl) (Nat.le_of_ble_eq_true rfl) d_Arrays_fill_f26_20
      · have g1 := mt (nI_leI (a := 64) (b := k) (by omega) (by omega)).mpr g1
        refine lv_aload_n hx hb d_Arrays_fill_f26_10 rfl (lv_at hl 2 rfl) ?_
        refine lv_iload_n hx hb d_Arrays_fill_f26_11 rfl (lv_at hl 0 rfl) ?_
        refine lv_iload_n hx hb d_Arrays_fill_f26_12 rfl (lv_at hl 3 rfl) ?_
        refine nistN (v := 0) (n := 64) hx hb hK hP hD hS 22 1 rfl rfl (k) (by omega) (by decide) d_Arrays_fill_f26_13 (fun H locs hP hD hS => ?_)
        have hP : va_P D vwCl (VW dA h ad (VS.s_nsP x (va_up (filG x.nsP 0 0 k) k 0))) H := hP
        have hD : va_D A (VW dA h ad (VS.s_nsP x (va_up (filG x.nsP 0 0 k) k 0))) := hD
        refine lv_iinc (k := 0) (v := nI (k + 1)) hx hb d_Arrays_fill_f26_14 hl rfl (iincN (k) 1 1 (by decide)) (by decide) rfl (fun ls hl => ?_)
        have hl : lv_has ls 4 [(2, .int (nI (k + 1))), (3, .int 64), (0, .ref (ad 8)), (1, .int 0)] := hl
        refine lv_goto hx hb d_Arrays_fill_f26_17 (tgt := 5) rfl ?_
        have e9 : (VS.s_nsP x (va_up (filG x.nsP 0 0 k) k 0) : VS) = VS.s_nsP x (filG x.nsP 0 0 (k + 1)) := by rw [show (filG x.nsP 0 0 (k + 1)) = (va_up (filG x.nsP 0 0 k) k 0) from (show va_up _ (0 + k) 0 = _ by rw [Nat.zero_add])] <;> rfl
        exact ih5 _ (by omega) (k + 1) (by omega) rfl H _ ls (cvPv e9 hP) (cvDv e9 hD) hS (lv_sub hl [0, 1, 2, 3] rfl)
  have e9 : (x : VS) = VS.s_nsP x (filG x.nsP 0 0 0) := by rw [show (filG x.nsP 0 0 0) = x.nsP from rfl] <;> rfl
  exact L5 _ 0 (by omega) rfl H _ ls (cvPv e9 hP) (cvDv e9 hD) hS (lv_sub hl [1, 0, 2, 3] rfl)
theorem d_H_endScars_46 : decode prog_9_method_12_code 46 = .ok (.aload_n 0, 1) := by decide +kernel
theorem d_H_endScars_47 : decode prog_9_method_12_code 47 = .ok (.getfield 28, 3) := by decide +kernel
theorem d_H_endScars_50 : decode prog_9_method_12_code 50 = .ok (.iload_n 2, 1) := by decide +kernel
theorem d_H_endScars_51 : decode prog_9_method_12_code 51 = .ok (.iaload, 1) := by decide +kernel
theorem d_H_endScars_52 : decode prog_9_method_12_code 52 = .ok (.ifCond .le 42, 3) := by decide +kernel
theorem d_H_endScars_94 : decode prog_9_method_12_code 94 = .ok (.iinc 2 1, 3) := by decide +kernel
theorem d_H_endScars_97 : decode prog_9_method_12_code 97 = .ok (.goto (-59), 3) := by decide +kernel
theorem d_H_endScars_55 : decode prog_9_method_12_code 55 = .ok (.aload_n 0, 1) := by decide +kernel
theorem d_H_endScars_56 : decode prog_9_method_12_code 56 = .ok (.getfield 17, 3) := by decide +kernel
theorem d_H_endScars_59 : decode prog_9_method_12_code 59 = .ok (.iload_n 1, 1) := by decide +kernel
theorem d_H_endScars_60 : decode prog_9_method_12_code 60 = .ok (.aload_n 0, 1) := by decide +kernel
theorem d_H_endScars_61 : decode prog_9_method_12_code 61 = .ok (.getfield 17, 3) := by decide +kernel
theorem d_H_endScars_64 : decode prog_9_method_12_code 64 = .ok (.iload_n 2, 1) := by decide +kernel
theorem d_H_endScars_65 : decode prog_9_method_12_code 65 = .ok (.iaload, 1) := by decide +kernel
theorem d_H_endScars_66 : decode prog_9_method_12_code 66 = .ok (.iastore, 1) := by decide +kernel
theorem d_H_endScars_67 : decode prog_9_method_12_code 67 = .ok (.aload_n 0, 1) := by decide +kernel
theorem d_H_endScars_68 : decode prog_9_method_12_code 68 = .ok (.getfield 21, 3) := by decide +kernel
theorem d_H_endScars_71 : decode prog_9_method_12_code 71 = .ok (.iload_n 1, 1) := by decide +kernel
theorem d_H_endScars_72 : decode prog_9_method_12_code 72 = .ok (.aload_n 0, 1) := by decide +kernel
theorem d_H_endScars_73 : decode prog_9_method_12_code 73 = .ok (.getfield 21, 3) := by decide +kernel
theorem d_H_endScars_76 : decode prog_9_method_12_code 76 = .ok (.iload_n 2, 1) := by decide +kernel
theorem d_H_endScars_77 : decode prog_9_method_12_code 77 = .ok (.laload, 1) := by decide +kernel
theorem d_H_endScars_78 : decode prog_9_method_12_code 78 = .ok (.lastore, 1) := by decide +kernel
theorem d_H_endScars_79 : decode prog_9_method_12_code 79 = .ok (.aload_n 0, 1) := by decide +kernel
theorem d_H_endScars_80 : decode prog_9_method_12_code 80 = .ok (.getfield 25, 3) := by decide +kernel
theorem d_H_endScars_83 : decode prog_9_method_12_code 83 = .ok (.iload_n 1, 1) := by decide +kernel
theorem d_H_endScars_84 : decode prog_9_method_12_code 84 = .ok (.aload_n 0, 1) := by decide +kernel
theorem d_H_endScars_85 : decode prog_9_method_12_code 85 = .ok (.getfield 25, 3) := by decide +kernel
theorem d_H_endScars_88 : decode prog_9_method_12_code 88 = .ok (.iload_n 2, 1) := by decide +kernel
theorem d_H_endScars_89 : decode prog_9_method_12_code 89 = .ok (.laload, 1) := by decide +kernel
theorem d_H_endScars_90 : decode prog_9_method_12_code 90 = .ok (.lastore, 1) := by decide +kernel
theorem d_H_endScars_91 : decode prog_9_method_12_code 91 = .ok (.iinc 1 1, 3) := by decide +kernel
theorem d_H_endScars_18 : decode prog_9_method_12_code 18 = .ok (.aload_n 0, 1) := by decide +kernel
theorem d_H_endScars_19 : decode prog_9_method_12_code 19 = .ok (.aload_n 0, 1) := by decide +kernel
theorem d_H_endScars_20 : decode prog_9_method_12_code 20 = .ok (.getfield 11, 3) := by decide +kernel
theorem d_H_endScars_23 : decode prog_9_method_12_code 23 = .ok (.iload_n 1, 1) := by decide +kernel
theorem d_H_endScars_24 : decode prog_9_method_12_code 24 = .ok (.aaload, 1) := by decide +kernel
theorem d_H_endScars_25 : decode prog_9_method_12_code 25 = .ok (.invokevirtual 80, 3) := by decide +kernel
theorem d_H_endScars_28 : decode prog_9_method_12_code 28 = .ok (.iinc 1 1, 3) := by decide +kernel
theorem d_H_endScars_31 : decode prog_9_method_12_code 31 = .ok (.goto (-21), 3) := by decide +kernel
theorem w1192 : Cond.methodLink "SeriesVault$Shelf" 80 ⟨"SeriesVault$Shelf", "countPointsOfScars", "(LSeriesVault$Parcel;)V"⟩ ∈ aW := aw_of (tb_6 (List.mem_of_getElem? (i := 143) rfl)) rfl
theorem w1193 : Cond.code ⟨"SeriesVault$Shelf", "countPointsOfScars", "(LSeriesVault$Parcel;)V"⟩ prog_9_method_13_code 4 none ∈ aW := aw_of (tb_6 (List.mem_of_getElem? (i := 146) rfl)) rfl
theorem w1194 : Cond.instanceMethod ⟨"SeriesVault$Shelf", "countPointsOfScars", "(LSeriesVault$Parcel;)V"⟩ ∈ aW := aw_of (tb_6 (List.mem_of_getElem? (i := 145) rfl)) rfl
theorem w1195 : Cond.selects "SeriesVault$Shelf" ⟨"SeriesVault$Shelf", "countPointsOfScars", "(LSeriesVault$Parcel;)V"⟩ ⟨"SeriesVault$Shelf", "countPointsOfScars", "(LSeriesVault$Parcel;)V"⟩ ∈ aW := aw_pr (List.mem_map.mpr ⟨_, pv_3 (List.mem_of_getElem? (i := 0) rfl), rfl⟩) rfl
set_option maxHeartbeats 4000000 in
set_option maxRecDepth 100000 in
theorem v_endScars (l : Launch) (D : va_G) (dA : Nat → ClassId) (sz : Nat) (h : Nat) (ad : Nat → Nat) (x : VS) (PS : Nat → PT) (hps : psOk dA x.nP x.npc x.pl PS) (hpn : x.npc ≤ 32) (h1 : x.nsc ≤ 64) (h7 : ∀ q : Nat, q < x.nsc → x.nsO q < 2 ^ 31) : Met l ⟨"SeriesVault$Shelf", "endScars", "()V"⟩ [Cond.code ⟨"SeriesVault$Shelf", "endScars", "()V"⟩ prog_9_method_12_code 3 none] { frames := 3, cells := 0, slots := 0, locals := 47 } (pC D dA [.ref (ad 3)] (VW dA h ad x) sz) (va_Qv (fun (u9 : Unit) => True) (fun (u9 : Unit) t9 => bW D (va_A (VW dA h ad x) sz) (VW dA h ad (VS.s_nsc (VS.s_nsP (VS.s_nsT (VS.s_nsF (VS.s_nsO x (tdT (x.esC PS) x.nsO x.nsc)) (tdT (x.esC PS) x.nsF x.nsc)) (tdT (x.esC PS) x.nsT x.nsc)) (x.esG PS)) (cnt x.nsc (x.esC PS)))) t9) (va_A (VW dA h ad x) sz)) 0 0 (va_A (VW dA h ad x) sz) := by
  refine mkC (y := ⟨"SeriesVault$Shelf", "endScars", "()V"⟩) (cc := prog_9_method_12_code) (maxL := 3) (av := [.ref (ad 3)]) (ws := VW dA h ad x) (sz := sz) (Qc := fun A => va_Qv (fun (u9 : Unit) => True) (fun (u9 : Unit) t9 => bW D A (VW dA h ad (VS.s_nsc (VS.s_nsP (VS.s_nsT (VS.s_nsF (VS.s_nsO x (tdT (x.esC PS) x.nsO x.nsc)) (tdT (x.esC PS) x.nsF x.nsc)) (tdT (x.esC PS) x.nsT x.nsc)) (x.esG PS)) (cnt x.nsc (x.esC PS)))) t9) A) (by decide) (Nat.le_of_ble_eq_true rfl) ?_
  intro A p e s m below meth c ls hsz hB
  obtain ⟨hx, hb, hr, hml, hown, hin, hlk, hE, hK, hP, hD, hS, hA, hN, hl⟩ := hB
  have hown : s.vm.findClass "SeriesVault$Shelf" = some m.cls := hown
  have hl : lv_has ls 3 [(0, .ref (ad 3))] := hl
  obtain ⟨H, hH⟩ : ∃ z, z = s.heap := ⟨_, rfl⟩
  have hP : va_P D vwCl (VW dA h ad x) H := by rw [hH]; exact hP
  have hS : va_S A s.heap H [] := by rw [hH]; exact hS
  rw [← hH]
  refine lv_aload_n hx hb d_H_endScars_0 rfl (lv_at hl 0 rfl) ?_
  refine gF (v := .ref (ad 8)) hx hb hown hE hK hP 17 rfl rfl layH 5 (by decide) w203 rfl d_H_endScars_1 ?_
  refine lv_iconst (v := 0) hx hb d_H_endScars_4 (by decide) ?_
  refine jfV (rnS (As := [.ref (ad 8), .int 0]) (rest := []) hx hb hml hown hE hK (hN _ _ hS) hP hD (v_fillNsP l D dA H.size h ad x) w713 w711 w714 w712 rfl rfl ⟨⟨by decide, by decide⟩, rfl⟩ ⟨(Nat.le_of_ble_eq_true rfl), (Nat.le_of_ble_eq_true rfl)⟩ rfl hl.1 rfl (Nat.le_of_ble_eq_true rfl) d_H_endScars_5 ⟨(Nat.le_of_ble_eq_true rfl), (Nat.le_of_ble_eq_true rfl)⟩) hP hD hS hA (fun u2 H locs hp9 hP hD hS => ?_)
  have hP : va_P D vwCl (VW dA h ad (VS.s_nsP x (filG x.nsP 0 0 64))) H := hP
  have hD : va_D A (VW dA h ad (VS.s_nsP x (filG x.nsP 0 0 64))) := hD
  refine lv_iconst (v := 0) hx hb d_H_endScars_8 (by decide) ?_
  refine lv_istore_n hx hb d_H_endScars_9 rfl hl (by decide) rfl (fun ls hl => ?_)
  have hl : lv_has ls 3 [(1, .int 0), (0, .ref (ad 3))] := hl
  have L10 : ∀ (k9 : Nat) (k : Nat) (i1 : k ≤ x.npc) (hk9 : x.npc - k = k9), ∀ (H : Heap) (locs : List Loc) (ls : Array Slot) (hP : va_P D vwCl (VW dA h ad (VS.s_nsP x (x.scP PS (filG x.nsP 0 0 64) k))) H) (hD : va_D A (VW dA h ad (VS.s_nsP x (x.scP PS (filG x.nsP 0 0 64) k)))) (hS : va_S A s.heap H locs) (hl : lv_has ls 3 [(1, .int (nI k)), (0, .ref (ad 3))]), W p l e ({ frames := 3, cells := 0, slots := 0, locals := 47 } : Room) s m ([.ref (ad 3)] : List Value).toArray below meth c H locs 0 0 (MQ below (va_Qv (fun (u9 : Unit) => True) (fun (u9 : Unit) t9 => bW D A (VW dA h ad (VS.s_nsc (VS.s_nsP (VS.s_nsT (VS.s_nsF (VS.s_nsO x (tdT (x.esC PS) x.nsO x.nsc)) (tdT (x.esC PS) x.nsF x.nsc)) (tdT (x.esC PS) x.nsT x.nsc)) (x.esG PS)) (cnt x.nsc (x.esC PS)))) t9) A) ([.ref (ad 3)] : List Value).toArray s 0 0 A) (F0 m 10 ls []) := by
    intro k9
    induction k9 using Nat.strongRecOn with
    | ind k9 ih10 =>
      intro k i1 hk9 H locs ls hP hD hS hl
      refine lv_iload_n hx hb d_H_endScars_10 rfl (lv_at hl 0 rfl) ?_
      refine lv_aload_n hx hb d_H_endScars_11 rfl (lv_at hl 1 rfl) ?_
      refine gF (v := .int (nI x.npc)) hx hb hown hE hK hP 17 rfl rfl layH 1 (by decide) w566 rfl d_H_endScars_12 ?_
      refine lv_icmp_ge hx hb d_H_endScars_15 (tgt := 34) rfl (fun g3 => ?_) (fun g3 => ?_)
      · have g3 := (nI_leI (a := x.npc) (b := k) (by omega) (by omega)).mp g3
        refine lv_iconst (v := 0) hx hb d_H_endScars_34 (by decide) ?_
        refine lv_istore_n hx hb d_H_endScars_35 rfl hl (by decide) rfl (fun ls hl => ?_)
        have hl : lv_has ls 3 [(1, .int 0), (0, .ref (ad 3))] := hl
        refine lv_iconst (v := 0) hx hb d_H_endScars_36 (by decide) ?_
        refine lv_istore_n hx hb d_H_endScars_37 rfl hl (by decide) rfl (fun ls hl => ?_)
        have hl : lv_has ls 3 [(2, .int 0), (1, .int 0), (0, .ref (ad 3))] := hl
        have L38 : ∀ (k9 : Nat) (i : Nat) (n : Nat) (i1 : i ≤ x.nsc) (i2 : n = cnt i (x.esC PS)) (i3 : n ≤ i) (hk9 : x.nsc - i = k9), ∀ (H : Heap) (locs : List Loc) (ls : Array Slot) (hP : va_P D vwCl (VW dA h ad (VS.s_nsP (VS.s_nsT (VS.s_nsF (VS.s_nsO x (tdT (x.esC PS) x.nsO i)) (tdT (x.esC PS) x.nsF i)) (tdT (x.esC PS) x.nsT i)) (x.esG PS))) H) (hD : va_D A (VW dA h ad (VS.s_nsP (VS.s_nsT (VS.s_nsF (VS.s_nsO x (tdT (x.esC PS) x.nsO i)) (tdT (x.esC PS) x.nsF i)) (tdT (x.esC PS) x.nsT i)) (x.esG PS)))) (hS : va_S A s.heap H locs) (hl : lv_has ls 3 [(1, .int (nI n)), (2, .int (nI i)), (0, .ref (ad 3))]), W p l e ({ frames := 3, cells := 0, slots := 0, locals := 47 } : Room) s m ([.ref (ad 3)] : List Value).toArray below meth c H locs 0 0 (MQ below (va_Qv (fun (u9 : Unit) => True) (fun (u9 : Unit) t9 => bW D A (VW dA h ad (VS.s_nsc (VS.s_nsP (VS.s_nsT (VS.s_nsF (VS.s_nsO x (tdT (x.esC PS) x.nsO x.nsc)) (tdT (x.esC PS) x.nsF x.nsc)) (tdT (x.esC PS) x.nsT x.nsc)) (x.esG PS)) (cnt x.nsc (x.esC PS)))) t9) A) ([.ref (ad 3)] : List Value).toArray s 0 0 A) (F0 m 38 ls []) := by
          intro k9
          induction k9 using Nat.strongRecOn with
          | ind k9 ih38 =>
            intro i n i1 i2 i3 hk9 H locs ls hP hD hS hl
            refine lv_iload_n hx hb d_H_endScars_38 rfl (lv_at hl 1 rfl) ?_
            refine lv_aload_n hx hb d_H_endScars_39 rfl (lv_at hl 2 rfl) ?_
            refine gF (v := .int (nI x.nsc)) hx hb hown hE hK hP 17 rfl rfl layH 6 (by decide) w567 rfl d_H_endScars_40 ?_
            refine lv_icmp_ge hx hb d_H_endScars_43 (tgt := 100) rfl (fun g4 => ?_) (fun g4 => ?_)
            · have g4 := (nI_leI (a := x.nsc) (b := i) (by omega) (by omega)).mp g4
              refine lv_aload_n hx hb d_H_endScars_100 rfl (lv_at hl 2 rfl) ?_
              refine lv_iload_n hx hb d_H_endScars_101 rfl (lv_at hl 0 rfl) ?_
              refine pF (v := .int (nI n)) hx hb hown hE hK hP hD hS 17 rfl rfl layH tyH tokH nmH 6 (by decide) w567 rfl rfl rfl (Nat.le_of_ble_eq_true rfl) d_H_endScars_102 (fun H locs hP hD hS => ?_)
              have hP : va_P D vwCl (VW dA h ad (VS.s_nsc (VS.s_nsP (VS.s_nsT (VS.s_nsF (VS.s_nsO x (tdT (x.esC PS) x.nsO i)) (tdT (x.esC PS) x.nsF i)) (tdT (x.esC PS) x.nsT i)) (x.esG PS)) n)) H := hP
              have hD : va_D A (VW dA h ad (VS.s_nsc (VS.s_nsP (VS.s_nsT (VS.s_nsF (VS.s_nsO x (tdT (x.esC PS) x.nsO i)) (tdT (x.esC PS) x.nsF i)) (tdT (x.esC PS) x.nsT i)) (x.esG PS)) n)) := hD
              have e9 : (VS.s_nsc (VS.s_nsP (VS.s_nsT (VS.s_nsF (VS.s_nsO x (tdT (x.esC PS) x.nsO i)) (tdT (x.esC PS) x.nsF i)) (tdT (x.esC PS) x.nsT i)) (x.esG PS)) n : VS) = VS.s_nsc (VS.s_nsP (VS.s_nsT (VS.s_nsF (VS.s_nsO x (tdT (x.esC PS) x.nsO x.nsc)) (tdT (x.esC PS) x.nsF x.nsc)) (tdT (x.esC PS) x.nsT x.nsc)) (x.esG PS)) (cnt x.nsc (x.esC PS)) := by rw [show (tdT (x.esC PS) x.nsF x.nsc) = (tdT (x.esC PS) x.nsF i) from by (rw [show x.nsc = i by omega]), show (tdT (x.esC PS) x.nsO x.nsc) = (tdT (x.esC PS) x.nsO i) from by (rw [show x.nsc = i by omega]), show (tdT (x.esC PS) x.nsT x.nsc) = (tdT (x.esC PS) x.nsT i) from by (rw [show x.nsc = i by omega]), show (cnt x.nsc (x.esC PS)) = n from by (rw [i2, show x.nsc = i by omega])] <;> rfl
              exact rfV hx hb hr hlk hS () trivial (cvPv e9 hP) (cvDv e9 hD) (Nat.le_of_ble_eq_true rfl) (Nat.le_of_ble_eq_true rfl) d_H_endScars_105
            · have g4 := mt (nI_leI (a := x.nsc) (b := i) (by omega) (by omega)).mpr g4
              have b5 := esG_lt hps hpn (q := i) (by omega)
              refine lv_aload_n hx hb d_H_endScars_46 rfl (lv_at hl 2 rfl) ?_
              refine gF (v := .ref (ad 8)) hx hb hown hE hK hP 17 rfl rfl layH 5 (by decide) w203 rfl d_H_endScars_47 ?_
              refine lv_iload_n hx hb d_H_endScars_50 rfl (lv_at hl 1 rfl) ?_
              refine nild (f := (fun z9 => nI ((x.esG PS) z9))) (n := 64) hx hb hK hP 22 1 rfl rfl (i) (by omega) (by decide) d_H_endScars_51 ?_
              refine lv_if_le hx hb d_H_endScars_52 (tgt := 94) rfl (fun g5 => ?_) (fun g5 => ?_)
              · have g5 := (nI_leI (a := (x.esG PS) i) (b := 0) (by omega) (by decide)).mp g5
                refine lv_iinc (k := 1) (v := nI (i + 1)) hx hb d_H_endScars_94 hl rfl (iincN (i) 1 1 (by decide)) (by decide) rfl (fun ls hl => ?_)
                have hl : lv_has ls 3 [(2, .int (nI (i + 1))), (1, .int (nI n)), (0, .ref (ad 3))] := hl
                refine lv_goto hx hb d_H_endScars_97 (tgt := 38) rfl ?_
                have e9 : (VS.s_nsP (VS.s_nsT (VS.s_nsF (VS.s_nsO x (tdT (x.esC PS) x.nsO i)) (tdT (x.esC PS) x.nsF i)) (tdT (x.esC PS) x.nsT i)) (x.esG PS) : VS) = VS.s_nsP (VS.s_nsT (VS.s_nsF (VS.s_nsO x (tdT (x.esC PS) x.nsO (i + 1))) (tdT (x.esC PS) x.nsF (i + 1))) (tdT (x.esC PS) x.nsT (i + 1))) (x.esG PS) := by rw [show (tdT (x.esC PS) x.nsF (i + 1)) = (tdT (x.esC PS) x.nsF i) from (tdT_f (c := x.esC PS) (show x.esC PS i = false from by unfold VS.esC; exact decide_eq_false (by omega))), show (tdT (x.esC PS) x.nsO (i + 1)) = (tdT (x.esC PS) x.nsO i) from (tdT_f (c := x.esC PS) (show x.esC PS i = false from by unfold VS.esC; exact decide_eq_false (by omega))), show (tdT (x.esC PS) x.nsT (i + 1)) = (tdT (x.esC PS) x.nsT i) from (tdT_f (c := x.esC PS) (show x.esC PS i = false from by unfold VS.esC; exact decide_eq_false (by omega)))] <;> rfl
                exact ih38 _ (by omega) (i + 1) n (by omega) (by rw [cnt_f (show x.esC PS i = false from by unfold VS.esC; exact decide_eq_false (by omega)), i2]) (by omega) rfl H _ ls (cvPv e9 hP) (cvDv e9 hD) hS (lv_sub hl [1, 0, 2] rfl)
              · have g5 := mt (nI_leI (a := (x.esG PS) i) (b := 0) (by omega) (by decide)).mpr g5
                refine lv_aload_n hx hb d_H_endScars_55 rfl (lv_at hl 2 rfl) ?_
                refine gF (v := .ref (ad 5)) hx hb hown hE hK hP 17 rfl rfl layH 2 (by decide) w200 rfl d_H_endScars_56 ?_
                refine lv_iload_n hx hb d_H_endScars_59 rfl (lv_at hl 0 rfl) ?_
                refine lv_aload_n hx hb d_H_endScars_60 rfl (lv_at hl 2 rfl) ?_
                refine gF (v := .ref (ad 5)) hx hb hown hE hK hP 17 rfl rfl layH 2 (by decide) w200 rfl d_H_endScars_61 ?_
                refine lv_iload_n hx hb d_H_endScars_64 rfl (lv_at hl 1 rfl) ?_
                refine nild (f := (fun z9 => nI ((tdT (x.esC PS) x.nsO i) z9))) (n := 64) hx hb hK hP 19 1 rfl rfl (i) (by omega) (by decide) d_H_endScars_65 ?_
                refine tpi (y := nI (x.nsO i)) (congrArg nI (tdT_at _ _ (Nat.le_refl i))) ?_
                refine nistN (v := x.nsO i) (n := 64) hx hb hK hP hD hS 19 1 rfl rfl (n) (by omega) (by decide) d_H_endScars_66 (fun H locs hP hD hS => ?_)
                have hP : va_P D vwCl (VW dA h ad (VS.s_nsP (VS.s_nsT (VS.s_nsF (VS.s_nsO x (va_up (tdT (x.esC PS) x.nsO i) n (x.nsO i))) (tdT (x.esC PS) x.nsF i)) (tdT (x.esC PS) x.nsT i)) (x.esG PS))) H := hP
                have hD : va_D A (VW dA h ad (VS.s_nsP (VS.s_nsT (VS.s_nsF (VS.s_nsO x (va_up (tdT (x.esC PS) x.nsO i) n (x.nsO i))) (tdT (x.esC PS) x.nsF i)) (tdT (x.esC PS) x.nsT i)) (x.esG PS))) := hD
                refine lv_aload_n hx hb d_H_endScars_67 rfl (lv_at hl 2 rfl) ?_
                refine gF (v := .ref (ad 6)) hx hb hown hE hK hP 17 rfl rfl layH 3 (by decide) w201 rfl d_H_endScars_68 ?_
                refine lv_iload_n hx hb d_H_endScars_71 rfl (lv_at hl 0 rfl) ?_
                refine lv_aload_n hx hb d_H_endScars_72 rfl (lv_at hl 2 rfl) ?_
                refine gF (v := .ref (ad 6)) hx hb hown hE hK hP 17 rfl rfl layH 3 (by decide) w201 rfl d_H_endScars_73 ?_
                refine lv_iload_n hx hb d_H_endScars_76 rfl (lv_at hl 1 rfl) ?_
                refine nlld (f := (tdT (x.esC PS) x.nsF i)) (n := 64) hx hb hK hP 20 2 rfl rfl (i) (by omega) (by decide) d_H_endScars_77 ?_
                refine tpl (y := (x.nsF i)) (tdT_at _ _ (Nat.le_refl i)) ?_
                refine nlst (n := 64) hx hb hK hP hD hS 20 2 rfl rfl (n) (by omega) (by decide) d_H_endScars_78 (fun H locs hP hD hS => ?_)
                have hP : va_P D vwCl (VW dA h ad (VS.s_nsP (VS.s_nsT (VS.s_nsF (VS.s_nsO x (va_up (tdT (x.esC PS) x.nsO i) n (x.nsO i))) (va_up (tdT (x.esC PS) x.nsF i) n (x.nsF i))) (tdT (x.esC PS) x.nsT i)) (x.esG PS))) H := hP
                have hD : va_D A (VW dA h ad (VS.s_nsP (VS.s_nsT (VS.s_nsF (VS.s_nsO x (va_up (tdT (x.esC PS) x.nsO i) n (x.nsO i))) (va_up (tdT (x.esC PS) x.nsF i) n (x.nsF i))) (tdT (x.esC PS) x.nsT i)) (x.esG PS))) := hD
                refine lv_aload_n hx hb d_H_endScars_79 rfl (lv_at hl 2 rfl) ?_
                refine gF (v := .ref (ad 7)) hx hb hown hE hK hP 17 rfl rfl layH 4 (by decide) w202 rfl d_H_endScars_80 ?_
                refine lv_iload_n hx hb d_H_endScars_83 rfl (lv_at hl 0 rfl) ?_
                refine lv_aload_n hx hb d_H_endScars_84 rfl (lv_at hl 2 rfl) ?_
                refine gF (v := .ref (ad 7)) hx hb hown hE hK hP 17 rfl rfl layH 4 (by decide) w202 rfl d_H_endScars_85 ?_
                refine lv_iload_n hx hb d_H_endScars_88 rfl (lv_at hl 1 rfl) ?_
                refine nlld (f := (tdT (x.esC PS) x.nsT i)) (n := 64) hx hb hK hP 21 2 rfl rfl (i) (by omega) (by decide) d_H_endScars_89 ?_
                refine tpl (y := (x.nsT i)) (tdT_at _ _ (Nat.le_refl i)) ?_
                refine nlst (n := 64) hx hb hK hP hD hS 21 2 rfl rfl (n) (by omega) (by decide) d_H_endScars_90 (fun H locs hP hD hS => ?_)
                have hP : va_P D vwCl (VW dA h ad (VS.s_nsP (VS.s_nsT (VS.s_nsF (VS.s_nsO x (va_up (tdT (x.esC PS) x.nsO i) n (x.nsO i))) (va_up (tdT (x.esC PS) x.nsF i) n (x.nsF i))) (va_up (tdT (x.esC PS) x.nsT i) n (x.nsT i))) (x.esG PS))) H := hP
                have hD : va_D A (VW dA h ad (VS.s_nsP (VS.s_nsT (VS.s_nsF (VS.s_nsO x (va_up (tdT (x.esC PS) x.nsO i) n (x.nsO i))) (va_up (tdT (x.esC PS) x.nsF i) n (x.nsF i))) (va_up (tdT (x.esC PS) x.nsT i) n (x.nsT i))) (x.esG PS))) := hD
                refine lv_iinc (k := 0) (v := nI (n + 1)) hx hb d_H_endScars_91 hl rfl (iincN (n) 1 1 (by decide)) (by decide) rfl (fun ls hl => ?_)
                have hl : lv_has ls 3 [(1, .int (nI (n + 1))), (2, .int (nI i)), (0, .ref (ad 3))] := hl
                refine lv_iinc (k := 1) (v := nI (i + 1)) hx hb d_H_endScars_94 hl rfl (iincN (i) 1 1 (by decide)) (by decide) rfl (fun ls hl => ?_)
                have hl : lv_has ls 3 [(2, .int (nI (i + 1))), (1, .int (nI (n + 1))), (0, .ref (ad 3))] := hl
                refine lv_goto hx hb d_H_endScars_97 (tgt := 38) rfl ?_
                have e9 : (VS.s_nsP (VS.s_nsT (VS.s_nsF (VS.s_nsO x (va_up (tdT (x.esC PS) x.nsO i) n (x.nsO i))) (va_up (tdT (x.esC PS) x.nsF i) n (x.nsF i))) (va_up (tdT (x.esC PS) x.nsT i) n (x.nsT i))) (x.esG PS) : VS) = VS.s_nsP (VS.s_nsT (VS.s_nsF (VS.s_nsO x (tdT (x.esC PS) x.nsO (i + 1))) (tdT (x.esC PS) x.nsF (i + 1))) (tdT (x.esC PS) x.nsT (i + 1))) (x.esG PS) := by rw [show (tdT (x.esC PS) x.nsF (i + 1)) = (va_up (tdT (x.esC PS) x.nsF i) n (x.nsF i)) from (by rw [tdT_t (c := x.esC PS) (show x.esC PS i = true from by unfold VS.esC; exact decide_eq_true (by omega)) rfl, i2]), show (tdT (x.esC PS) x.nsO (i + 1)) = (va_up (tdT (x.esC PS) x.nsO i) n (x.nsO i)) from (by rw [tdT_t (c := x.esC PS) (show x.esC PS i = true from by unfold VS.esC; exact decide_eq_true (by omega)) rfl, i2]), show (tdT (x.esC PS) x.nsT (i + 1)) = (va_up (tdT (x.esC PS) x.nsT i) n (x.nsT i)) from (by rw [tdT_t (c := x.esC PS) (show x.esC PS i = true from by unfold VS.esC; exact decide_eq_true (by omega)) rfl, i2])] <;> rfl
                exact ih38 _ (by omega) (i + 1) (n + 1) (by omega) (by rw [cnt_t (show x.esC PS i = true from by unfold VS.esC; exact decide_eq_true (by omega)), i2]) (by omega) rfl H _ ls (cvPv e9 hP) (cvDv e9 hD) hS (lv_sub hl [1, 0, 2] rfl)
        have e9 : (VS.s_nsP x (x.scP PS (filG x.nsP 0 0 64) k) : VS) = VS.s_nsP (VS.s_nsT (VS.s_nsF (VS.s_nsO x (tdT (x.esC PS) x.nsO 0)) (tdT (x.esC PS) x.nsF 0)) (tdT (x.esC PS) x.nsT 0)) (x.esG PS) := by rw [show (tdT (x.esC PS) x.nsF 0) = x.nsF from rfl, show (tdT (x.esC PS) x.nsO 0) = x.nsO from rfl, show (tdT (x.esC PS) x.nsT 0) = x.nsT from rfl, show (x.esG PS) = (x.scP PS (filG x.nsP 0 0 64) k) from (by unfold VS.esG; rw [show x.npc = k by omega])] <;> rfl
        exact L38 _ 0 0 (Nat.zero_le _) rfl (Nat.le_refl _) rfl H _ ls (cvPv e9 hP) (cvDv e9 hD) hS (lv_sub hl [1, 0, 2] rfl)
      · have g3 := mt (nI_leI (a := x.npc) (b := k) (by omega) (by omega)).mpr g3
        obtain ⟨pp, ke, hpp, hpk⟩ := hps k (by omega)
        have hpp0 := hpp
        obtain ⟨po, pt, pv, m1, m2, m3, m4⟩ := hpp
        have pk1 := hpk.1
        refine lv_aload_n hx hb d_H_endScars_18 rfl (lv_at hl 1 rfl) ?_
        refine lv_aload_n hx hb d_H_endScars_19 rfl (lv_at hl 1 rfl) ?_
        refine gF (v := .ref (ad 4)) hx hb hown hE hK hP 17 rfl rfl layH 0 (by decide) w199 rfl d_H_endScars_20 ?_
        refine lv_iload_n hx hb d_H_endScars_23 rfl (lv_at hl 0 rfl) ?_
        refine nqld (f := x.nP) (n := 32) hx hb hK hP (18) 4 rfl rfl (k) (by omega) (by decide) ke d_H_endScars_24 ?_
        refine jfV (rnV (As := [.ref pp]) (rest := []) hx hb hml hown hE hK (hN _ _ hS) hP hD (v_countPointsOfScars l D dA H.size h ad (VS.s_nsP x (x.scP PS (filG x.nsP 0 0 64) k)) pp (PS k) hpp0 hpk (show x.nsc ≤ 64 from by omega) h7) (q0 := 17) rfl rfl w1193 w1192 w1194 w1195 w583 rfl rfl ⟨⟨by decide, by decide⟩, rfl⟩ ⟨(Nat.le_of_ble_eq_true rfl), (Nat.le_of_ble_eq_true rfl)⟩ rfl hl.1 rfl (Nat.le_of_ble_eq_true rfl) d_H_endScars_25 ⟨(Nat.le_of_ble_eq_true rfl), (Nat.le_of_ble_eq_true rfl)⟩) hP hD hS hA (fun u7 H locs hp9 hP hD hS => ?_)
        have hP : va_P D vwCl (VW dA h ad (VS.s_nsP x (spK (x.scI (PS k)) (x.scP PS (filG x.nsP 0 0 64) k) (PS k).n))) H := hP
        have hD : va_D A (VW dA h ad (VS.s_nsP x (spK (x.scI (PS k)) (x.scP PS (filG x.nsP 0 0 64) k) (PS k).n))) := hD
        refine lv_iinc (k := 0) (v := nI (k + 1)) hx hb d_H_endScars_28 hl rfl (iincN (k) 1 1 (by decide)) (by decide) rfl (fun ls hl => ?_)
        have hl : lv_has ls 3 [(1, .int (nI (k + 1))), (0, .ref (ad 3))] := hl
        refine lv_goto hx hb d_H_endScars_31 (tgt := 10) rfl ?_
        have e9 : (VS.s_nsP x (spK (x.scI (PS k)) (x.scP PS (filG x.nsP 0 0 64) k) (PS k).n) : VS) = VS.s_nsP x (x.scP PS (filG x.nsP 0 0 64) (k + 1)) := by rw [show (x.scP PS (filG x.nsP 0 0 64) (k + 1)) = (spK (x.scI (PS k)) (x.scP PS (filG x.nsP 0 0 64) k) (PS k).n) from rfl] <;> rfl
        exact ih10 _ (by omega) (k + 1) (by omega) rfl H _ ls (cvPv e9 hP) (cvDv e9 hD) hS (lv_sub hl [0, 1] rfl)
  have e9 : (VS.s_nsP x (filG x.nsP 0 0 64) : VS) = VS.s_nsP x (x.scP PS (filG x.nsP 0 0 64) 0) := by rw [show (x.scP PS (filG x.nsP 0 0 64) 0) = (filG x.nsP 0 0 64) from rfl] <;> rfl
  exact L10 _ 0 (Nat.zero_le _) rfl H _ ls (cvPv e9 hP) (cvDv e9 hD) hS (lv_sub hl [0, 1] rfl)
