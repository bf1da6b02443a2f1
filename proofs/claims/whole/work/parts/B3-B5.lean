section
section QS
variable {p : Program} {l : Launch} {e : Env} {R : Room} {s : State} {m : MethodId} {args : Array Value} {below : List Frame} {meth : Method} {c : Code} {H : Heap} {locs : List Loc} {cells slots : Nat} {Q : State → Prop}
variable {D : va_G} {dA : Nat → ClassId} {A : Nat → Prop} {cc : ByteArray} {pc : Nat} {ls : Array Slot} {rest st0 : List Value} {ws : va_W} {a : Nat}
theorem nqst (hx : p.tables.exec = Jvm.exec) (hb : c.code = cc) (hK : va_K D vwCl (arT dA) s) (hP : va_P D vwCl ws H) (hD : va_D A ws) (hS : va_S A s.heap H locs) (q0 t0 qk ci : Nat) {cA : ClassId} {r : vw_C} {n v : Nat} {vs : List Value} {f : Nat → Option Nat} (ha : ws[q0]? = some (a, .inl (cA, n, .inr (.inr (.inr (.inr f)))))) (ht : (arT dA)[t0]? = some (cA, .object r.1)) (hv : ws[qk]? = some (v, .inr (ci, vs))) (hc : vwCl[ci]? = some r) (j : Nat) (hj : j < n) (hn : n < 2 ^ 31) (hdg : decode cc pc = .ok (.aastore, 1))
    (kk : ∀ (H1 : Heap) (locs1 : List Loc), va_P D vwCl (ws.set q0 (a, .inl (cA, n, .inr (.inr (.inr (.inr (va_up f j (some v)))))))) H1 → va_D A (ws.set q0 (a, .inl (cA, n, .inr (.inr (.inr (.inr (va_up f j (some v)))))))) → va_S A s.heap H1 locs1 → W p l e R s m args below meth c H1 locs1 cells slots Q (F0 m (pc + 1) ls rest)) : W p l e R s m args below meth c H locs cells slots Q (F0 m pc ls (.ref v :: .int (nI j) :: .ref a :: rest)) :=
  va_astq hx hb hK hP hD hS q0 t0 qk ci ha ht hv hc (vp_in_nI hj hn) hdg (by rw [nI_clamp (by omega)]; exact kk)
theorem ncpyq (hexec : p.tables.exec = Jvm.exec) (hb : c.code = cc) (hml : c.maxLocals = ls.size) {own : String} {index : Nat} (hown : s.vm.findClass own = some m.cls) (hlink : (Cond.methodLink own index arraycopyName).before args s = true) (hnat : (Cond.native arraycopyName).before args s = true) (hstat : (Cond.static arraycopyName).before args s = true) (hini : (Cond.initialized "java/lang/System").before args s = true)
    (hK : va_K D vwCl (arT dA) s) (hP : va_P D vwCl ws H) (hD : va_D A ws) (hS : va_S A s.heap H locs) (q0 q1 t0 ci : Nat) {a0 : Nat} {c0 : ClassId} {n0 n1 : Nat} {f g : Nat → Option Nat} {r : vw_C} (ha0 : ws[q0]? = some (a0, .inl (c0, n0, .inr (.inr (.inr (.inr f)))))) (ha1 : ws[q1]? = some (a, .inl (c0, n1, .inr (.inr (.inr (.inr g)))))) (ht0 : (arT dA)[t0]? = some (c0, .object r.1)) (hc : vwCl[ci]? = some r)
    (sp dp n : Nat) (h1 : sp < 2 ^ 31) (h2 : dp < 2 ^ 31) (h3 : n < 2 ^ 31) (h4 : sp + n ≤ n0) (h5 : dp + n ≤ n1) (hel : ∀ i : Nat, i < n → ∀ y : Nat, f (sp + i) = some y → ∃ vs : List Value, (y, .inr (ci, vs)) ∈ ws)
    (hframes : 1 ≤ R.frames) (hlocals : (rest.map fun v => v.category).sum + (nativeFrameWords "java/lang/System" "arraycopy" 5 + 11) ≤ R.locals) (hdg : decode cc pc = .ok (.invokestatic index, 3))
    (kk : ∀ (H1 : Heap) (locs1 : List Loc), va_P D vwCl (ws.set q1 (a, .inl (c0, n1, .inr (.inr (.inr (.inr (va_cpy f g sp dp n))))))) H1 → va_D A (ws.set q1 (a, .inl (c0, n1, .inr (.inr (.inr (.inr (va_cpy f g sp dp n))))))) → va_S A s.heap H1 locs1 → W p l e R s m args below meth c H1 locs1 cells slots Q (F0 m (pc + 3) ls rest)) : W p l e R s m args below meth c H locs cells slots Q (F0 m pc ls (.int (nI n) :: .int (nI dp) :: .ref a :: .int (nI sp) :: .ref a0 :: rest)) := by
  have hcls := (hK.1 ci r hc).2
  refine va_copyq (C := r.1) hexec hb hml hown hlink hnat hstat hini hK hP hD hS q0 q1 t0 t0 ha0 ha1 ht0 ht0 (nI_pos h1) (nI_pos h2) (nI_pos h3) ?_ ?_ ?_ ?_ hframes hlocals hdg ?_
  · rw [nI_clamp h1, nI_clamp h3]; exact h4
  · rw [nI_clamp h2, nI_clamp h3]; exact h5
  · rw [nI_clamp h1, nI_clamp h3]
    intro i hi y hy
    obtain ⟨vs, hm⟩ := hel i hi y hy
    obtain ⟨k, hk⟩ := List.getElem?_of_mem hm
    obtain ⟨r', hr', cellV, g1, g2, g3, -⟩ := hP k _ hk
    exact ⟨cellV, g1, by rw [g3]; rfl, by rw [g2]; exact hcls.1⟩
  · intro comp c9 e1 e2
    cases hcls.1.symm.trans e1
    cases hcls.1.symm.trans e2
    exact va_assign hcls
  · rw [nI_clamp h1, nI_clamp h2, nI_clamp h3]; exact kk
end QS
theorem plm {dA : Nat → ClassId} {h : Nat} {ad : Nat → Nat} {x : VS} {c : Nat × va_E} (hm : c ∈ x.pl) : c ∈ VW dA h ad x := List.mem_append_right _ (List.mem_append_right _ hm)
theorem psel {dA : Nat → ClassId} {nP : Nat → Option Nat} {n : Nat} {pl ws : va_W} {PS : Nat → PT} (hps : psOk dA nP n pl PS) (hsub : ∀ c, c ∈ pl → c ∈ ws) : ∀ i : Nat, i < n → ∀ y : Nat, nP (0 + i) = some y → ∃ vs : List Value, (y, .inr (12, vs)) ∈ ws := by
  intro i hi y hy
  obtain ⟨pp, ke, hpp, -⟩ := hps i hi
  rw [Nat.zero_add] at hy
  cases ke.symm.trans hy
  obtain ⟨po, pt, pv, m1, -⟩ := hpp
  exact ⟨_, hsub _ m1⟩
/-- n places moved down by d, to st on -/
def sfT {α : Type} (g : Nat → α) (st d n : Nat) : Nat → α := fun z => if st ≤ z ∧ z < st + n then g (z + d) else g z
theorem sfT_0 {α : Type} (g : Nat → α) (st d : Nat) : sfT g st d 0 = g := by
  funext z
  unfold sfT
  rw [if_neg (by omega)]
theorem sfT_at {α : Type} (g : Nat → α) {st d n z : Nat} (h : st + n ≤ z) : sfT g st d n z = g z := by
  unfold sfT
  rw [if_neg (by omega)]
theorem sfT_s {α : Type} (g : Nat → α) {st d n : Nat} {v : α} (hv : v = g (st + n + d)) : sfT g st d (n + 1) = va_up (sfT g st d n) (st + n) v := by
  funext z
  show (if st ≤ z ∧ z < st + (n + 1) then g (z + d) else g z) = if z = st + n then v else (if st ≤ z ∧ z < st + n then g (z + d) else g z)
  by_cases h1 : z = st + n
  · subst h1
    rw [if_pos (by omega), if_pos rfl, hv]
  · rw [if_neg h1]
    by_cases h2 : st ≤ z ∧ z < st + n
    · rw [if_pos (by omega), if_pos h2]
    · rw [if_neg (by omega), if_neg h2]
/-- the scar of a point of a parcel; how many points of a parcel each scar has -/
def VS.scI (x : VS) (P : PT) (i : Nat) : Option Nat := x.sc1 (P.o i) (P.t i)
def spK (sc : Nat → Option Nat) (g : Nat → Nat) : Nat → Nat → Nat
  | 0 => g
  | i + 1 => match sc i with
    | none => spK sc g i
    | some q => va_up (spK sc g i) q (spK sc g i q + 1)
theorem spK_n {sc : Nat → Option Nat} {g : Nat → Nat} {i : Nat} (h : sc i = none) : spK sc g (i + 1) = spK sc g i := by
  show (match sc i with | none => spK sc g i | some q => va_up (spK sc g i) q (spK sc g i q + 1)) = _
  rw [h]
theorem spK_s {sc : Nat → Option Nat} {g : Nat → Nat} {i q : Nat} (h : sc i = some q) : spK sc g (i + 1) = va_up (spK sc g i) q (spK sc g i q + 1) := by
  show (match sc i with | none => spK sc g i | some q => va_up (spK sc g i) q (spK sc g i q + 1)) = _
  rw [h]
theorem spK_le (sc : Nat → Option Nat) (g : Nat → Nat) (q : Nat) : ∀ i, spK sc g i q ≤ g q + i
  | 0 => Nat.le_refl _
  | i + 1 => by
    have ih := spK_le sc g q i
    cases h : sc i with
    | none => rw [spK_n h]; omega
    | some k =>
      rw [spK_s h]
      unfold va_up
      split
      · next e => subst e; omega
      · omega
def VS.scP (x : VS) (PS : Nat → PT) (g : Nat → Nat) : Nat → Nat → Nat
  | 0 => g
  | k + 1 => spK (x.scI (PS k)) (x.scP PS g k) (PS k).n
theorem scP_le {x : VS} {PS : Nat → PT} {g : Nat → Nat} {q : Nat} : ∀ {n : Nat}, (∀ k : Nat, k < n → (PS k).n ≤ 12000) → x.scP PS g n q ≤ g q + 12000 * n
  | 0, _ => Nat.le_refl _
  | n + 1, h => by
    have h1 := scP_le (x := x) (g := g) (q := q) (n := n) (fun k hk => h k (by omega))
    have h2 := spK_le (x.scI (PS n)) (x.scP PS g n) q (PS n).n
    have h3 := h n (by omega)
    show spK (x.scI (PS n)) (x.scP PS g n) (PS n).n q ≤ _
    omega
theorem filG_z {α : Type} (f : Nat → α) (v : α) : ∀ {n q : Nat}, q < n → filG f 0 v n q = v
  | n + 1, q, h => by
    show va_up (filG f 0 v n) (0 + n) v q = v
    unfold va_up
    split
    · rfl
    · exact filG_z f v (by omega)
def VS.esG (x : VS) (PS : Nat → PT) : Nat → Nat := x.scP PS (filG x.nsP 0 0 64) x.npc
def VS.esC (x : VS) (PS : Nat → PT) (q : Nat) : Bool := decide (0 < x.esG PS q)
def mhC (PS : Nat → PT) (a : Int64) (k : Nat) : Bool := !decide ((PS k).nw < a)
theorem esG_lt {x : VS} {PS : Nat → PT} {dA : Nat → ClassId} {q : Nat} (hps : psOk dA x.nP x.npc x.pl PS) (hpn : x.npc ≤ 32) (hq : q < 64) : x.esG PS q < 2 ^ 31 := by
  have h1 := scP_le (x := x) (PS := PS) (g := filG x.nsP 0 0 64) (q := q) (n := x.npc) (fun k hk => (hps k hk).choose_spec.2.2.1)
  rw [filG_z _ _ hq] at h1
  unfold VS.esG
  omega
theorem d_H_addParcel_0 : decode prog_9_method_7_code 0 = .ok (.aload_n 1, 1) := by decide +kernel
theorem d_H_addParcel_1 : decode prog_9_method_7_code 1 = .ok (.ifnull 32, 3) := by decide +kernel
theorem d_H_addParcel_33 : decode prog_9_method_7_code 33 = .ok (.return_, 1) := by decide +kernel
set_option maxHeartbeats 4000000 in
set_option maxRecDepth 100000 in
theorem v_addParcel_0 (l : Launch) (D : va_G) (dA : Nat → ClassId) (sz : Nat) (h : Nat) (ad : Nat → Nat) (x : VS) : Met l ⟨"SeriesVault$Shelf", "addParcel", "(LSeriesVault$Parcel;)V"⟩ [Cond.code ⟨"SeriesVault$Shelf", "addParcel", "(LSeriesVault$Parcel;)V"⟩ prog_9_method_7_code 2 none] { frames := 1, cells := 0, slots := 0, locals := 0 } (pC D dA [.ref (ad 3), .null] (VW dA h ad x) sz) (va_Qv (fun (u9 : Unit) => True) (fun (u9 : Unit) t9 => bW D (va_A (VW dA h ad x) sz) (VW dA h ad x) t9) (va_A (VW dA h ad x) sz)) 0 0 (va_A (VW dA h ad x) sz) := by
  refine mkC (y := ⟨"SeriesVault$Shelf", "addParcel", "(LSeriesVault$Parcel;)V"⟩) (cc := prog_9_method_7_code) (maxL := 2) (av := [.ref (ad 3), .null]) (ws := VW dA h ad x) (sz := sz) (Qc := fun A => va_Qv (fun (u9 : Unit) => True) (fun (u9 : Unit) t9 => bW D A (VW dA h ad x) t9) A) (by decide) (Nat.le_of_ble_eq_true rfl) ?_
  intro A p e s m below meth c ls hsz hB
  obtain ⟨hx, hb, hr, hml, hown, hin, hlk, hE, hK, hP, hD, hS, hA, hN, hl⟩ := hB
  have hown : s.vm.findClass "SeriesVault$Shelf" = some m.cls := hown
  have hl : lv_has ls 2 [(0, .ref (ad 3)), (1, .null)] := hl
  obtain ⟨H, hH⟩ : ∃ z, z = s.heap := ⟨_, rfl⟩
  have hP : va_P D vwCl (VW dA h ad x) H := by rw [hH]; exact hP
  have hS : va_S A s.heap H [] := by rw [hH]; exact hS
  rw [← hH]
  refine lv_aload_nN hx hb d_H_addParcel_0 rfl (lv_at hl 1 rfl) ?_
  refine lv_ifnullN hx hb d_H_addParcel_1 (tgt := 33) rfl ?_
  exact rfV hx hb hr hlk hS () trivial hP hD (Nat.le_of_ble_eq_true rfl) (Nat.le_of_ble_eq_true rfl) d_H_addParcel_33
theorem d_H_addParcel_4 : decode prog_9_method_7_code 4 = .ok (.aload_n 0, 1) := by decide +kernel
theorem d_H_addParcel_5 : decode prog_9_method_7_code 5 = .ok (.getfield 34, 3) := by decide +kernel
theorem d_H_addParcel_8 : decode prog_9_method_7_code 8 = .ok (.bipush 32, 2) := by decide +kernel
theorem d_H_addParcel_10 : decode prog_9_method_7_code 10 = .ok (.if_icmp .ge 23, 3) := by decide +kernel
theorem d_H_addParcel_13 : decode prog_9_method_7_code 13 = .ok (.aload_n 0, 1) := by decide +kernel
theorem d_H_addParcel_14 : decode prog_9_method_7_code 14 = .ok (.getfield 11, 3) := by decide +kernel
theorem d_H_addParcel_17 : decode prog_9_method_7_code 17 = .ok (.aload_n 0, 1) := by decide +kernel
theorem d_H_addParcel_18 : decode prog_9_method_7_code 18 = .ok (.getfield 34, 3) := by decide +kernel
theorem d_H_addParcel_21 : decode prog_9_method_7_code 21 = .ok (.aload_n 1, 1) := by decide +kernel
theorem d_H_addParcel_22 : decode prog_9_method_7_code 22 = .ok (.aastore, 1) := by decide +kernel
theorem d_H_addParcel_23 : decode prog_9_method_7_code 23 = .ok (.aload_n 0, 1) := by decide +kernel
theorem d_H_addParcel_24 : decode prog_9_method_7_code 24 = .ok (.dup, 1) := by decide +kernel
theorem d_H_addParcel_25 : decode prog_9_method_7_code 25 = .ok (.getfield 34, 3) := by decide +kernel
theorem d_H_addParcel_28 : decode prog_9_method_7_code 28 = .ok (.iconst 1, 1) := by decide +kernel
theorem d_H_addParcel_29 : decode prog_9_method_7_code 29 = .ok (.iadd, 1) := by decide +kernel
theorem d_H_addParcel_30 : decode prog_9_method_7_code 30 = .ok (.putfield 34, 3) := by decide +kernel
set_option maxHeartbeats 4000000 in
set_option maxRecDepth 100000 in
theorem v_addParcel_1 (l : Launch) (D : va_G) (dA : Nat → ClassId) (sz : Nat) (h : Nat) (ad : Nat → Nat) (x : VS) (pp : Nat) (P : PT) (hpp : isPc dA x.pl pp P) (hpk : pcOk P) (hn : x.npc < 32) : Met l ⟨"SeriesVault$Shelf", "addParcel", "(LSeriesVault$Parcel;)V"⟩ [Cond.code ⟨"SeriesVault$Shelf", "addParcel", "(LSeriesVault$Parcel;)V"⟩ prog_9_method_7_code 2 none] { frames := 1, cells := 0, slots := 0, locals := 0 } (pC D dA [.ref (ad 3), .ref pp] (VW dA h ad x) sz) (va_Qv (fun (u9 : Unit) => True) (fun (u9 : Unit) t9 => bW D (va_A (VW dA h ad x) sz) (VW dA h ad (VS.s_npc (VS.s_nP x (va_up x.nP x.npc (some pp))) (x.npc + 1))) t9) (va_A (VW dA h ad x) sz)) 0 0 (va_A (VW dA h ad x) sz) := by
  refine mkC (y := ⟨"SeriesVault$Shelf", "addParcel", "(LSeriesVault$Parcel;)V"⟩) (cc := prog_9_method_7_code) (maxL := 2) (av := [.ref (ad 3), .ref pp]) (ws := VW dA h ad x) (sz := sz) (Qc := fun A => va_Qv (fun (u9 : Unit) => True) (fun (u9 : Unit) t9 => bW D A (VW dA h ad (VS.s_npc (VS.s_nP x (va_up x.nP x.npc (some pp))) (x.npc + 1))) t9) A) (by decide) (Nat.le_of_ble_eq_true rfl) ?_
  intro A p e s m below meth c ls hsz hB
  obtain ⟨hx, hb, hr, hml, hown, hin, hlk, hE, hK, hP, hD, hS, hA, hN, hl⟩ := hB
  have hown : s.vm.findClass "SeriesVault$Shelf" = some m.cls := hown
  have hl : lv_has ls 2 [(0, .ref (ad 3)), (1, .ref pp)] := hl
  obtain ⟨H, hH⟩ : ∃ z, z = s.heap := ⟨_, rfl⟩
  have hP : va_P D vwCl (VW dA h ad x) H := by rw [hH]; exact hP
  have hS : va_S A s.heap H [] := by rw [hH]; exact hS
  rw [← hH]
  have pk1 := hpk.1
  have pk2 := hpk.2
  have hpp0 := hpp
  obtain ⟨po, pt, pv, m1, m2, m3, m4⟩ := hpp
  refine lv_aload_n hx hb d_H_addParcel_0 rfl (lv_at hl 1 rfl) ?_
  refine lv_ifnull hx hb d_H_addParcel_1 ?_
  refine lv_aload_n hx hb d_H_addParcel_4 rfl (lv_at hl 0 rfl) ?_
  refine gF (v := .int (nI x.npc)) hx hb hown hE hK hP 17 rfl rfl layH 1 (by decide) w566 rfl d_H_addParcel_5 ?_
  refine lv_bipush (v := 32) hx hb d_H_addParcel_8 (by decide) ?_
  refine lv_icmp_ge hx hb d_H_addParcel_10 (tgt := 33) rfl (fun h9 => absurd h9 (mt (nI_leI (a := 32) (b := x.npc) (by omega) (by omega)).mp (Nat.not_le.mpr hn))) (fun _ => ?_)
  refine lv_aload_n hx hb d_H_addParcel_13 rfl (lv_at hl 0 rfl) ?_
  refine gF (v := .ref (ad 4)) hx hb hown hE hK hP 17 rfl rfl layH 0 (by decide) w199 rfl d_H_addParcel_14 ?_
  refine lv_aload_n hx hb d_H_addParcel_17 rfl (lv_at hl 0 rfl) ?_
  refine gF (v := .int (nI x.npc)) hx hb hown hE hK hP 17 rfl rfl layH 1 (by decide) w566 rfl d_H_addParcel_18 ?_
  refine lv_aload_n hx hb d_H_addParcel_21 rfl (lv_at hl 1 rfl) ?_
  obtain ⟨qp1, ep2⟩ := plv (dA := dA) (h := h) (ad := ad) (x := x) m1
  refine nqst (r := ("SeriesVault$Parcel", TC, 8)) (f := x.nP) (n := 32) hx hb hK hP hD hS (18) 4 qp1 12 rfl rfl ep2 rfl (x.npc) (by omega) (by decide) d_H_addParcel_22 (fun H locs hP hD hS => ?_)
  have hP : va_P D vwCl (VW dA h ad (VS.s_nP x (va_up x.nP x.npc (some pp)))) H := hP
  have hD : va_D A (VW dA h ad (VS.s_nP x (va_up x.nP x.npc (some pp)))) := hD
  refine lv_aload_n hx hb d_H_addParcel_23 rfl (lv_at hl 0 rfl) ?_
  refine lv_dup hx hb d_H_addParcel_24 rfl ?_
  refine gF (v := .int (nI x.npc)) hx hb hown hE hK hP 17 rfl rfl layH 1 (by decide) w566 rfl d_H_addParcel_25 ?_
  refine lv_iconst (v := 1) hx hb d_H_addParcel_28 (by decide) ?_
  refine lv_iadd hx hb d_H_addParcel_29 (tpi (y := nI (x.npc + 1)) (nI_add (x.npc) (1)) ?_)
  refine pF (v := .int (nI (x.npc + 1))) hx hb hown hE hK hP hD hS 17 rfl rfl layH tyH tokH nmH 1 (by decide) w566 rfl rfl rfl (Nat.le_of_ble_eq_true rfl) d_H_addParcel_30 (fun H locs hP hD hS => ?_)
  have hP : va_P D vwCl (VW dA h ad (VS.s_npc (VS.s_nP x (va_up x.nP x.npc (some pp))) (x.npc + 1))) H := hP
  have hD : va_D A (VW dA h ad (VS.s_npc (VS.s_nP x (va_up x.nP x.npc (some pp))) (x.npc + 1))) := hD
  exact rfV hx hb hr hlk hS () trivial hP hD (Nat.le_of_ble_eq_true rfl) (Nat.le_of_ble_eq_true rfl) d_H_addParcel_33
set_option maxHeartbeats 4000000 in
set_option maxRecDepth 100000 in
theorem v_takeParcels_s (l : Launch) (D : va_G) (dA : Nat → ClassId) (sz : Nat) (h : Nat) (ad : Nat → Nat) (x : VS) (PS : Nat → PT) (hps : psOk dA x.nP x.npc x.pl PS) (h1 : x.npc ≤ 32) (h2 : x.nsc ≤ 64) : Met l ⟨"SeriesVault$Shelf", "takeParcels", "(LSeriesVault$Shelf;)V"⟩ [Cond.code ⟨"SeriesVault$Shelf", "takeParcels", "(LSeriesVault$Shelf;)V"⟩ prog_9_method_3_code 2 none] { frames := 1, cells := 0, slots := 0, locals := 40 } (pC D dA [.ref (ad 10), .ref (ad 3)] (VW dA h ad x) sz) (va_Qv (fun (u9 : Unit) => True) (fun (u9 : Unit) t9 => bW D (va_A (VW dA h ad x) sz) (VW dA h ad (VS.s_shor (VS.s_ssc (VS.s_ssT (VS.s_ssF (VS.s_ssO (VS.s_spc (VS.s_sP x (va_cpy x.nP x.sP 0 0 x.npc)) x.npc) (va_cpy x.nsO x.ssO 0 0 x.nsc)) (va_cpy x.nsF x.ssF 0 0 x.nsc)) (va_cpy x.nsT x.ssT 0 0 x.nsc)) x.nsc) x.nhor)) t9) (va_A (VW dA h ad x) sz)) 0 0 (va_A (VW dA h ad x) sz) := by
  refine mkC (y := ⟨"SeriesVault$Shelf", "takeParcels", "(LSeriesVault$Shelf;)V"⟩) (cc := prog_9_method_3_code) (maxL := 2) (av := [.ref (ad 10), .ref (ad 3)]) (ws := VW dA h ad x) (sz := sz) (Qc := fun A => va_Qv (fun (u9 : Unit) => True) (fun (u9 : Unit) t9 => bW D A (VW dA h ad (VS.s_shor (VS.s_ssc (VS.s_ssT (VS.s_ssF (VS.s_ssO (VS.s_spc (VS.s_sP x (va_cpy x.nP x.sP 0 0 x.npc)) x.npc) (va_cpy x.nsO x.ssO 0 0 x.nsc)) (va_cpy x.nsF x.ssF 0 0 x.nsc)) (va_cpy x.nsT x.ssT 0 0 x.nsc)) x.nsc) x.nhor)) t9) A) (by decide) (Nat.le_of_ble_eq_true rfl) ?_
  intro A p e s m below meth c ls hsz hB
  obtain ⟨hx, hb, hr, hml, hown, hin, hlk, hE, hK, hP, hD, hS, hA, hN, hl⟩ := hB
  have hown : s.vm.findClass "SeriesVault$Shelf" = some m.cls := hown
  have hl : lv_has ls 2 [(0, .ref (ad 10)), (1, .ref (ad 3))] := hl
  obtain ⟨H, hH⟩ : ∃ z, z = s.heap := ⟨_, rfl⟩
  have hP : va_P D vwCl (VW dA h ad x) H := by rw [hH]; exact hP
  have hS : va_S A s.heap H [] := by rw [hH]; exact hS
  rw [← hH]
  refine lv_aload_n hx hb d_H_takeParcels_0 rfl (lv_at hl 1 rfl) ?_
  refine gF (v := .ref (ad 4)) hx hb hown hE hK hP 17 rfl rfl layH 0 (by decide) w199 rfl d_H_takeParcels_1 ?_
  refine lv_iconst (v := 0) hx hb d_H_takeParcels_4 (by decide) ?_
  refine lv_aload_n hx hb d_H_takeParcels_5 rfl (lv_at hl 0 rfl) ?_
  refine gF (v := .ref (ad 11)) hx hb hown hE hK hP 24 rfl rfl layH 0 (by decide) w199 rfl d_H_takeParcels_6 ?_
  refine lv_iconst (v := 0) hx hb d_H_takeParcels_9 (by decide) ?_
  refine lv_aload_n hx hb d_H_takeParcels_10 rfl (lv_at hl 1 rfl) ?_
  refine gF (v := .int (nI x.npc)) hx hb hown hE hK hP 17 rfl rfl layH 1 (by decide) w566 rfl d_H_takeParcels_11 ?_
  refine ncpyq (r := ("SeriesVault$Parcel", TC, 8)) (f := x.nP) (g := x.sP) (n0 := 32) (n1 := 32) hx hb (hml.trans hl.1.symm) hown (hE.t w719 rfl) (hE.t w720 rfl) (hE.t w721 rfl) (hE.t w722 rfl) hK hP hD hS (18) (25) 4 12 rfl rfl rfl rfl (0) (0) (x.npc) (by omega) (by omega) (by omega) (by omega) (by omega) (psel hps (fun _ hm => plm hm)) (Nat.le_of_ble_eq_true rfl) (Nat.le_of_ble_eq_true rfl) d_H_takeParcels_14 (fun H locs hP hD hS => ?_)
  have hP : va_P D vwCl (VW dA h ad (VS.s_sP x (va_cpy x.nP x.sP 0 0 x.npc))) H := hP
  have hD : va_D A (VW dA h ad (VS.s_sP x (va_cpy x.nP x.sP 0 0 x.npc))) := hD
  refine lv_aload_n hx hb d_H_takeParcels_17 rfl (lv_at hl 0 rfl) ?_
  refine lv_aload_n hx hb d_H_takeParcels_18 rfl (lv_at hl 1 rfl) ?_
  refine gF (v := .int (nI x.npc)) hx hb hown hE hK hP 17 rfl rfl layH 1 (by decide) w566 rfl d_H_takeParcels_19 ?_
  refine pF (v := .int (nI x.npc)) hx hb hown hE hK hP hD hS 24 rfl rfl layH tyH tokH nmH 1 (by decide) w566 rfl rfl rfl (Nat.le_of_ble_eq_true rfl) d_H_takeParcels_22 (fun H locs hP hD hS => ?_)
  have hP : va_P D vwCl (VW dA h ad (VS.s_spc (VS.s_sP x (va_cpy x.nP x.sP 0 0 x.npc)) x.npc)) H := hP
  have hD : va_D A (VW dA h ad (VS.s_spc (VS.s_sP x (va_cpy x.nP x.sP 0 0 x.npc)) x.npc)) := hD
  refine lv_aload_n hx hb d_H_takeParcels_25 rfl (lv_at hl 1 rfl) ?_
  refine gF (v := .ref (ad 5)) hx hb hown hE hK hP 17 rfl rfl layH 2 (by decide) w200 rfl d_H_takeParcels_26 ?_
  refine lv_iconst (v := 0) hx hb d_H_takeParcels_29 (by decide) ?_
  refine lv_aload_n hx hb d_H_takeParcels_30 rfl (lv_at hl 0 rfl) ?_
  refine gF (v := .ref (ad 12)) hx hb hown hE hK hP 24 rfl rfl layH 2 (by decide) w200 rfl d_H_takeParcels_31 ?_
  refine lv_iconst (v := 0) hx hb d_H_takeParcels_34 (by decide) ?_
  refine lv_aload_n hx hb d_H_takeParcels_35 rfl (lv_at hl 1 rfl) ?_
  refine gF (v := .int (nI x.nsc)) hx hb hown hE hK hP 17 rfl rfl layH 6 (by decide) w567 rfl d_H_takeParcels_36 ?_
  refine ncpyi (f := (fun z9 => nI (x.nsO z9))) (g := (fun z9 => nI (x.ssO z9))) (n0 := 64) (n1 := 64) hx hb (hml.trans hl.1.symm) hown (hE.t w719 rfl) (hE.t w720 rfl) (hE.t w721 rfl) (hE.t w722 rfl) hK hP hD hS (19) (26) 1 rfl rfl rfl rfl (0) (0) (x.nsc) (by omega) (by omega) (by omega) (by omega) (by omega) (fun _ _ => rfl) (Nat.le_of_ble_eq_true rfl) (Nat.le_of_ble_eq_true rfl) d_H_takeParcels_39 (fun H locs hP hD hS => ?_)
  rw [cpyNI] at hP hD
  have hP : va_P D vwCl (VW dA h ad (VS.s_ssO (VS.s_spc (VS.s_sP x (va_cpy x.nP x.sP 0 0 x.npc)) x.npc) (va_cpy x.nsO x.ssO 0 0 x.nsc))) H := hP
  have hD : va_D A (VW dA h ad (VS.s_ssO (VS.s_spc (VS.s_sP x (va_cpy x.nP x.sP 0 0 x.npc)) x.npc) (va_cpy x.nsO x.ssO 0 0 x.nsc))) := hD
  refine lv_aload_n hx hb d_H_takeParcels_42 rfl (lv_at hl 1 rfl) ?_
  refine gF (v := .ref (ad 6)) hx hb hown hE hK hP 17 rfl rfl layH 3 (by decide) w201 rfl d_H_takeParcels_43 ?_
  refine lv_iconst (v := 0) hx hb d_H_takeParcels_46 (by decide) ?_
  refine lv_aload_n hx hb d_H_takeParcels_47 rfl (lv_at hl 0 rfl) ?_
  refine gF (v := .ref (ad 13)) hx hb hown hE hK hP 24 rfl rfl layH 3 (by decide) w201 rfl d_H_takeParcels_48 ?_
  refine lv_iconst (v := 0) hx hb d_H_takeParcels_51 (by decide) ?_
  refine lv_aload_n hx hb d_H_takeParcels_52 rfl (lv_at hl 1 rfl) ?_
  refine gF (v := .int (nI x.nsc)) hx hb hown hE hK hP 17 rfl rfl layH 6 (by decide) w567 rfl d_H_takeParcels_53 ?_
  refine ncpyl (f := x.nsF) (g := x.ssF) (n0 := 64) (n1 := 64) hx hb (hml.trans hl.1.symm) hown (hE.t w719 rfl) (hE.t w720 rfl) (hE.t w721 rfl) (hE.t w722 rfl) hK hP hD hS (20) (27) 2 rfl rfl rfl rfl (0) (0) (x.nsc) (by omega) (by omega) (by omega) (by omega) (by omega) (fun _ _ => rfl) (Nat.le_of_ble_eq_true rfl) (Nat.le_of_ble_eq_true rfl) d_H_takeParcels_56 (fun H locs hP hD hS => ?_)
  have hP : va_P D vwCl (VW dA h ad (VS.s_ssF (VS.s_ssO (VS.s_spc (VS.s_sP x (va_cpy x.nP x.sP 0 0 x.npc)) x.npc) (va_cpy x.nsO x.ssO 0 0 x.nsc)) (va_cpy x.nsF x.ssF 0 0 x.nsc))) H := hP
  have hD : va_D A (VW dA h ad (VS.s_ssF (VS.s_ssO (VS.s_spc (VS.s_sP x (va_cpy x.nP x.sP 0 0 x.npc)) x.npc) (va_cpy x.nsO x.ssO 0 0 x.nsc)) (va_cpy x.nsF x.ssF 0 0 x.nsc))) := hD
  refine lv_aload_n hx hb d_H_takeParcels_59 rfl (lv_at hl 1 rfl) ?_
  refine gF (v := .ref (ad 7)) hx hb hown hE hK hP 17 rfl rfl layH 4 (by decide) w202 rfl d_H_takeParcels_60 ?_
  refine lv_iconst (v := 0) hx hb d_H_takeParcels_63 (by decide) ?_
  refine lv_aload_n hx hb d_H_takeParcels_64 rfl (lv_at hl 0 rfl) ?_
  refine gF (v := .ref (ad 14)) hx hb hown hE hK hP 24 rfl rfl layH 4 (by decide) w202 rfl d_H_takeParcels_65 ?_
  refine lv_iconst (v := 0) hx hb d_H_takeParcels_68 (by decide) ?_
  refine lv_aload_n hx hb d_H_takeParcels_69 rfl (lv_at hl 1 rfl) ?_
  refine gF (v := .int (nI x.nsc)) hx hb hown hE hK hP 17 rfl rfl layH 6 (by decide) w567 rfl d_H_takeParcels_70 ?_
  refine ncpyl (f := x.nsT) (g := x.ssT) (n0 := 64) (n1 := 64) hx hb (hml.trans hl.1.symm) hown (hE.t w719 rfl) (hE.t w720 rfl) (hE.t w721 rfl) (hE.t w722 rfl) hK hP hD hS (21) (28) 2 rfl rfl rfl rfl (0) (0) (x.nsc) (by omega) (by omega) (by omega) (by omega) (by omega) (fun _ _ => rfl) (Nat.le_of_ble_eq_true rfl) (Nat.le_of_ble_eq_true rfl) d_H_takeParcels_73 (fun H locs hP hD hS => ?_)
  have hP : va_P D vwCl (VW dA h ad (VS.s_ssT (VS.s_ssF (VS.s_ssO (VS.s_spc (VS.s_sP x (va_cpy x.nP x.sP 0 0 x.npc)) x.npc) (va_cpy x.nsO x.ssO 0 0 x.nsc)) (va_cpy x.nsF x.ssF 0 0 x.nsc)) (va_cpy x.nsT x.ssT 0 0 x.nsc))) H := hP
  have hD : va_D A (VW dA h ad (VS.s_ssT (VS.s_ssF (VS.s_ssO (VS.s_spc (VS.s_sP x (va_cpy x.nP x.sP 0 0 x.npc)) x.npc) (va_cpy x.nsO x.ssO 0 0 x.nsc)) (va_cpy x.nsF x.ssF 0 0 x.nsc)) (va_cpy x.nsT x.ssT 0 0 x.nsc))) := hD
  refine lv_aload_n hx hb d_H_takeParcels_76 rfl (lv_at hl 0 rfl) ?_
  refine lv_aload_n hx hb d_H_takeParcels_77 rfl (lv_at hl 1 rfl) ?_
  refine gF (v := .int (nI x.nsc)) hx hb hown hE hK hP 17 rfl rfl layH 6 (by decide) w567 rfl d_H_takeParcels_78 ?_
  refine pF (v := .int (nI x.nsc)) hx hb hown hE hK hP hD hS 24 rfl rfl layH tyH tokH nmH 6 (by decide) w567 rfl rfl rfl (Nat.le_of_ble_eq_true rfl) d_H_takeParcels_81 (fun H locs hP hD hS => ?_)
  have hP : va_P D vwCl (VW dA h ad (VS.s_ssc (VS.s_ssT (VS.s_ssF (VS.s_ssO (VS.s_spc (VS.s_sP x (va_cpy x.nP x.sP 0 0 x.npc)) x.npc) (va_cpy x.nsO x.ssO 0 0 x.nsc)) (va_cpy x.nsF x.ssF 0 0 x.nsc)) (va_cpy x.nsT x.ssT 0 0 x.nsc)) x.nsc)) H := hP
  have hD : va_D A (VW dA h ad (VS.s_ssc (VS.s_ssT (VS.s_ssF (VS.s_ssO (VS.s_spc (VS.s_sP x (va_cpy x.nP x.sP 0 0 x.npc)) x.npc) (va_cpy x.nsO x.ssO 0 0 x.nsc)) (va_cpy x.nsF x.ssF 0 0 x.nsc)) (va_cpy x.nsT x.ssT 0 0 x.nsc)) x.nsc)) := hD
  refine lv_aload_n hx hb d_H_takeParcels_84 rfl (lv_at hl 0 rfl) ?_
  refine lv_aload_n hx hb d_H_takeParcels_85 rfl (lv_at hl 1 rfl) ?_
  refine gF (v := .long x.nhor) hx hb hown hE hK hP 17 rfl rfl layH 7 (by decide) w568 rfl d_H_takeParcels_86 ?_
  refine pF (v := .long x.nhor) hx hb hown hE hK hP hD hS 24 rfl rfl layH tyH tokH nmH 7 (by decide) w568 rfl rfl rfl (Nat.le_of_ble_eq_true rfl) d_H_takeParcels_89 (fun H locs hP hD hS => ?_)
  have hP : va_P D vwCl (VW dA h ad (VS.s_shor (VS.s_ssc (VS.s_ssT (VS.s_ssF (VS.s_ssO (VS.s_spc (VS.s_sP x (va_cpy x.nP x.sP 0 0 x.npc)) x.npc) (va_cpy x.nsO x.ssO 0 0 x.nsc)) (va_cpy x.nsF x.ssF 0 0 x.nsc)) (va_cpy x.nsT x.ssT 0 0 x.nsc)) x.nsc) x.nhor)) H := hP
  have hD : va_D A (VW dA h ad (VS.s_shor (VS.s_ssc (VS.s_ssT (VS.s_ssF (VS.s_ssO (VS.s_spc (VS.s_sP x (va_cpy x.nP x.sP 0 0 x.npc)) x.npc) (va_cpy x.nsO x.ssO 0 0 x.nsc)) (va_cpy x.nsF x.ssF 0 0 x.nsc)) (va_cpy x.nsT x.ssT 0 0 x.nsc)) x.nsc) x.nhor)) := hD
  exact rfV hx hb hr hlk hS () trivial hP hD (Nat.le_of_ble_eq_true rfl) (Nat.le_of_ble_eq_true rfl) d_H_takeParcels_92
theorem d_H_takeCatalog_0 : decode prog_9_method_4_code 0 = .ok (.aload_n 1, 1) := by decide +kernel
theorem d_H_takeCatalog_1 : decode prog_9_method_4_code 1 = .ok (.getfield 31, 3) := by decide +kernel
theorem d_H_takeCatalog_4 : decode prog_9_method_4_code 4 = .ok (.iconst 0, 1) := by decide +kernel
theorem d_H_takeCatalog_5 : decode prog_9_method_4_code 5 = .ok (.aload_n 0, 1) := by decide +kernel
theorem d_H_takeCatalog_6 : decode prog_9_method_4_code 6 = .ok (.getfield 31, 3) := by decide +kernel
theorem d_H_takeCatalog_9 : decode prog_9_method_4_code 9 = .ok (.iconst 0, 1) := by decide +kernel
theorem d_H_takeCatalog_10 : decode prog_9_method_4_code 10 = .ok (.aload_n 1, 1) := by decide +kernel
theorem d_H_takeCatalog_11 : decode prog_9_method_4_code 11 = .ok (.getfield 45, 3) := by decide +kernel
theorem d_H_takeCatalog_14 : decode prog_9_method_4_code 14 = .ok (.invokestatic 51, 3) := by decide +kernel
theorem d_H_takeCatalog_17 : decode prog_9_method_4_code 17 = .ok (.aload_n 0, 1) := by decide +kernel
theorem d_H_takeCatalog_18 : decode prog_9_method_4_code 18 = .ok (.aload_n 1, 1) := by decide +kernel
theorem d_H_takeCatalog_19 : decode prog_9_method_4_code 19 = .ok (.getfield 45, 3) := by decide +kernel
theorem d_H_takeCatalog_22 : decode prog_9_method_4_code 22 = .ok (.putfield 45, 3) := by decide +kernel
theorem d_H_takeCatalog_25 : decode prog_9_method_4_code 25 = .ok (.aload_n 0, 1) := by decide +kernel
theorem d_H_takeCatalog_26 : decode prog_9_method_4_code 26 = .ok (.aload_n 1, 1) := by decide +kernel
theorem d_H_takeCatalog_27 : decode prog_9_method_4_code 27 = .ok (.getfield 48, 3) := by decide +kernel
theorem d_H_takeCatalog_30 : decode prog_9_method_4_code 30 = .ok (.putfield 48, 3) := by decide +kernel
theorem d_H_takeCatalog_33 : decode prog_9_method_4_code 33 = .ok (.return_, 1) := by decide +kernel
set_option maxHeartbeats 4000000 in
set_option maxRecDepth 100000 in
theorem v_takeCatalog_s (l : Launch) (D : va_G) (dA : Nat → ClassId) (sz : Nat) (h : Nat) (ad : Nat → Nat) (x : VS) (h1 : x.nser ≤ 256) : Met l ⟨"SeriesVault$Shelf", "takeCatalog", "(LSeriesVault$Shelf;)V"⟩ [Cond.code ⟨"SeriesVault$Shelf", "takeCatalog", "(LSeriesVault$Shelf;)V"⟩ prog_9_method_4_code 2 none] { frames := 1, cells := 0, slots := 0, locals := 40 } (pC D dA [.ref (ad 10), .ref (ad 3)] (VW dA h ad x) sz) (va_Qv (fun (u9 : Unit) => True) (fun (u9 : Unit) t9 => bW D (va_A (VW dA h ad x) sz) (VW dA h ad (VS.s_scat (VS.s_slast (VS.s_sser x x.nser) (va_cpy x.nlast x.slast 0 0 x.nser)) x.ncat)) t9) (va_A (VW dA h ad x) sz)) 0 0 (va_A (VW dA h ad x) sz) := by
  refine mkC (y := ⟨"SeriesVault$Shelf", "takeCatalog", "(LSeriesVault$Shelf;)V"⟩) (cc := prog_9_method_4_code) (maxL := 2) (av := [.ref (ad 10), .ref (ad 3)]) (ws := VW dA h ad x) (sz := sz) (Qc := fun A => va_Qv (fun (u9 : Unit) => True) (fun (u9 : Unit) t9 => bW D A (VW dA h ad (VS.s_scat (VS.s_slast (VS.s_sser x x.nser) (va_cpy x.nlast x.slast 0 0 x.nser)) x.ncat)) t9) A) (by decide) (Nat.le_of_ble_eq_true rfl) ?_
  intro A p e s m below meth c ls hsz hB
  obtain ⟨hx, hb, hr, hml, hown, hin, hlk, hE, hK, hP, hD, hS, hA, hN, hl⟩ := hB
  have hown : s.vm.findClass "SeriesVault$Shelf" = some m.cls := hown
  have hl : lv_has ls 2 [(0, .ref (ad 10)), (1, .ref (ad 3))] := hl
  obtain ⟨H, hH⟩ : ∃ z, z = s.heap := ⟨_, rfl⟩
  have hP : va_P D vwCl (VW dA h ad x) H := by rw [hH]; exact hP
  have hS : va_S A s.heap H [] := by rw [hH]; exact hS
  rw [← hH]
  refine lv_aload_n hx hb d_H_takeCatalog_0 rfl (lv_at hl 1 rfl) ?_
  refine gF (v := .ref (ad 9)) hx hb hown hE hK hP 17 rfl rfl layH 9 (by decide) w204 rfl d_H_takeCatalog_1 ?_
  refine lv_iconst (v := 0) hx hb d_H_takeCatalog_4 (by decide) ?_
  refine lv_aload_n hx hb d_H_takeCatalog_5 rfl (lv_at hl 0 rfl) ?_
  refine gF (v := .ref (ad 16)) hx hb hown hE hK hP 24 rfl rfl layH 9 (by decide) w204 rfl d_H_takeCatalog_6 ?_
  refine lv_iconst (v := 0) hx hb d_H_takeCatalog_9 (by decide) ?_
  refine lv_aload_n hx hb d_H_takeCatalog_10 rfl (lv_at hl 1 rfl) ?_
  refine gF (v := .int (nI x.nser)) hx hb hown hE hK hP 17 rfl rfl layH 8 (by decide) w569 rfl d_H_takeCatalog_11 ?_
  refine ncpyl (f := x.nlast) (g := x.slast) (n0 := 256) (n1 := 256) hx hb (hml.trans hl.1.symm) hown (hE.t w719 rfl) (hE.t w720 rfl) (hE.t w721 rfl) (hE.t w722 rfl) hK hP hD hS (23) (30) 2 rfl rfl rfl rfl (0) (0) (x.nser) (by omega) (by omega) (by omega) (by omega) (by omega) (fun _ _ => rfl) (Nat.le_of_ble_eq_true rfl) (Nat.le_of_ble_eq_true rfl) d_H_takeCatalog_14 (fun H locs hP hD hS => ?_)
  have hP : va_P D vwCl (VW dA h ad (VS.s_slast x (va_cpy x.nlast x.slast 0 0 x.nser))) H := hP
  have hD : va_D A (VW dA h ad (VS.s_slast x (va_cpy x.nlast x.slast 0 0 x.nser))) := hD
  refine lv_aload_n hx hb d_H_takeCatalog_17 rfl (lv_at hl 0 rfl) ?_
  refine lv_aload_n hx hb d_H_takeCatalog_18 rfl (lv_at hl 1 rfl) ?_
  refine gF (v := .int (nI x.nser)) hx hb hown hE hK hP 17 rfl rfl layH 8 (by decide) w569 rfl d_H_takeCatalog_19 ?_
  refine pF (v := .int (nI x.nser)) hx hb hown hE hK hP hD hS 24 rfl rfl layH tyH tokH nmH 8 (by decide) w569 rfl rfl rfl (Nat.le_of_ble_eq_true rfl) d_H_takeCatalog_22 (fun H locs hP hD hS => ?_)
  have hP : va_P D vwCl (VW dA h ad (VS.s_slast (VS.s_sser x x.nser) (va_cpy x.nlast x.slast 0 0 x.nser))) H := hP
  have hD : va_D A (VW dA h ad (VS.s_slast (VS.s_sser x x.nser) (va_cpy x.nlast x.slast 0 0 x.nser))) := hD
  refine lv_aload_n hx hb d_H_takeCatalog_25 rfl (lv_at hl 0 rfl) ?_
  refine lv_aload_n hx hb d_H_takeCatalog_26 rfl (lv_at hl 1 rfl) ?_
  refine gF (v := .int (nI x.ncat)) hx hb hown hE hK hP 17 rfl rfl layH 10 (by decide) w570 rfl d_H_takeCatalog_27 ?_
  refine pF (v := .int (nI x.ncat)) hx hb hown hE hK hP hD hS 24 rfl rfl layH tyH tokH nmH 10 (by decide) w570 rfl rfl rfl (Nat.le_of_ble_eq_true rfl) d_H_takeCatalog_30 (fun H locs hP hD hS => ?_)
  have hP : va_P D vwCl (VW dA h ad (VS.s_scat (VS.s_slast (VS.s_sser x x.nser) (va_cpy x.nlast x.slast 0 0 x.nser)) x.ncat)) H := hP
  have hD : va_D A (VW dA h ad (VS.s_scat (VS.s_slast (VS.s_sser x x.nser) (va_cpy x.nlast x.slast 0 0 x.nser)) x.ncat)) := hD
  exact rfV hx hb hr hlk hS () trivial hP hD (Nat.le_of_ble_eq_true rfl) (Nat.le_of_ble_eq_true rfl) d_H_takeCatalog_33
set_option maxHeartbeats 4000000 in
set_option maxRecDepth 100000 in
theorem v_takeParcels_n (l : Launch) (D : va_G) (dA : Nat → ClassId) (sz : Nat) (h : Nat) (ad : Nat → Nat) (x : VS) (PS : Nat → PT) (hps : psOk dA x.sP x.spc x.pl PS) (h1 : x.spc ≤ 32) (h2 : x.ssc ≤ 64) : Met l ⟨"SeriesVault$Shelf", "takeParcels", "(LSeriesVault$Shelf;)V"⟩ [Cond.code ⟨"SeriesVault$Shelf", "takeParcels", "(LSeriesVault$Shelf;)V"⟩ prog_9_method_3_code 2 none] { frames := 1, cells := 0, slots := 0, locals := 40 } (pC D dA [.ref (ad 3), .ref (ad 10)] (VW dA h ad x) sz) (va_Qv (fun (u9 : Unit) => True) (fun (u9 : Unit) t9 => bW D (va_A (VW dA h ad x) sz) (VW dA h ad (VS.s_nhor (VS.s_nsc (VS.s_nsT (VS.s_nsF (VS.s_nsO (VS.s_npc (VS.s_nP x (va_cpy x.sP x.nP 0 0 x.spc)) x.spc) (va_cpy x.ssO x.nsO 0 0 x.ssc)) (va_cpy x.ssF x.nsF 0 0 x.ssc)) (va_cpy x.ssT x.nsT 0 0 x.ssc)) x.ssc) x.shor)) t9) (va_A (VW dA h ad x) sz)) 0 0 (va_A (VW dA h ad x) sz) := by
  refine mkC (y := ⟨"SeriesVault$Shelf", "takeParcels", "(LSeriesVault$Shelf;)V"⟩) (cc := prog_9_method_3_code) (maxL := 2) (av := [.ref (ad 3), .ref (ad 10)]) (ws := VW dA h ad x) (sz := sz) (Qc := fun A => va_Qv (fun (u9 : Unit) => True) (fun (u9 : Unit) t9 => bW D A (VW dA h ad (VS.s_nhor (VS.s_nsc (VS.s_nsT (VS.s_nsF (VS.s_nsO (VS.s_npc (VS.s_nP x (va_cpy x.sP x.nP 0 0 x.spc)) x.spc) (va_cpy x.ssO x.nsO 0 0 x.ssc)) (va_cpy x.ssF x.nsF 0 0 x.ssc)) (va_cpy x.ssT x.nsT 0 0 x.ssc)) x.ssc) x.shor)) t9) A) (by decide) (Nat.le_of_ble_eq_true rfl) ?_
  intro A p e s m below meth c ls hsz hB
  obtain ⟨hx, hb, hr, hml, hown, hin, hlk, hE, hK, hP, hD, hS, hA, hN, hl⟩ := hB
  have hown : s.vm.findClass "SeriesVault$Shelf" = some m.cls := hown
  have hl : lv_has ls 2 [(0, .ref (ad 3)), (1, .ref (ad 10))] := hl
  obtain ⟨H, hH⟩ : ∃ z, z = s.heap := ⟨_, rfl⟩
  have hP : va_P D vwCl (VW dA h ad x) H := by rw [hH]; exact hP
  have hS : va_S A s.heap H [] := by rw [hH]; exact hS
  rw [← hH]
  refine lv_aload_n hx hb d_H_takeParcels_0 rfl (lv_at hl 1 rfl) ?_
  refine gF (v := .ref (ad 11)) hx hb hown hE hK hP 24 rfl rfl layH 0 (by decide) w199 rfl d_H_takeParcels_1 ?_
  refine lv_iconst (v := 0) hx hb d_H_takeParcels_4 (by decide) ?_
  refine lv_aload_n hx hb d_H_takeParcels_5 rfl (lv_at hl 0 rfl) ?_
  refine gF (v := .ref (ad 4)) hx hb hown hE hK hP 17 rfl rfl layH 0 (by decide) w199 rfl d_H_takeParcels_6 ?_
  refine lv_iconst (v := 0) hx hb d_H_takeParcels_9 (by decide) ?_
  refine lv_aload_n hx hb d_H_takeParcels_10 rfl (lv_at hl 1 rfl) ?_
  refine gF (v := .int (nI x.spc)) hx hb hown hE hK hP 24 rfl rfl layH 1 (by decide) w566 rfl d_H_takeParcels_11 ?_
  refine ncpyq (r := ("SeriesVault$Parcel", TC, 8)) (f := x.sP) (g := x.nP) (n0 := 32) (n1 := 32) hx hb (hml.trans hl.1.symm) hown (hE.t w719 rfl) (hE.t w720 rfl) (hE.t w721 rfl) (hE.t w722 rfl) hK hP hD hS (25) (18) 4 12 rfl rfl rfl rfl (0) (0) (x.spc) (by omega) (by omega) (by omega) (by omega) (by omega) (psel hps (fun _ hm => plm hm)) (Nat.le_of_ble_eq_true rfl) (Nat.le_of_ble_eq_true rfl) d_H_takeParcels_14 (fun H locs hP hD hS => ?_)
  have hP : va_P D vwCl (VW dA h ad (VS.s_nP x (va_cpy x.sP x.nP 0 0 x.spc))) H := hP
  have hD : va_D A (VW dA h ad (VS.s_nP x (va_cpy x.sP x.nP 0 0 x.spc))) := hD
  refine lv_aload_n hx hb d_H_takeParcels_17 rfl (lv_at hl 0 rfl) ?_
  refine lv_aload_n hx hb d_H_takeParcels_18 rfl (lv_at hl 1 rfl) ?_
  refine gF (v := .int (nI x.spc)) hx hb hown hE hK hP 24 rfl rfl layH 1 (by decide) w566 rfl d_H_takeParcels_19 ?_
  refine pF (v := .int (nI x.spc)) hx hb hown hE hK hP hD hS 17 rfl rfl layH tyH tokH nmH 1 (by decide) w566 rfl rfl rfl (Nat.le_of_ble_eq_true rfl) d_H_takeParcels_22 (fun H locs hP hD hS => ?_)
  have hP : va_P D vwCl (VW dA h ad (VS.s_npc (VS.s_nP x (va_cpy x.sP x.nP 0 0 x.spc)) x.spc)) H := hP
  have hD : va_D A (VW dA h ad (VS.s_npc (VS.s_nP x (va_cpy x.sP x.nP 0 0 x.spc)) x.spc)) := hD
  refine lv_aload_n hx hb d_H_takeParcels_25 rfl (lv_at hl 1 rfl) ?_
  refine gF (v := .ref (ad 12)) hx hb hown hE hK hP 24 rfl rfl layH 2 (by decide) w200 rfl d_H_takeParcels_26 ?_
  refine lv_iconst (v := 0) hx hb d_H_takeParcels_29 (by decide) ?_
  refine lv_aload_n hx hb d_H_takeParcels_30 rfl (lv_at hl 0 rfl) ?_
  refine gF (v := .ref (ad 5)) hx hb hown hE hK hP 17 rfl rfl layH 2 (by decide) w200 rfl d_H_takeParcels_31 ?_
  refine lv_iconst (v := 0) hx hb d_H_takeParcels_34 (by decide) ?_
  refine lv_aload_n hx hb d_H_takeParcels_35 rfl (lv_at hl 1 rfl) ?_
  refine gF (v := .int (nI x.ssc)) hx hb hown hE hK hP 24 rfl rfl layH 6 (by decide) w567 rfl d_H_takeParcels_36 ?_
  refine ncpyi (f := (fun z9 => nI (x.ssO z9))) (g := (fun z9 => nI (x.nsO z9))) (n0 := 64) (n1 := 64) hx hb (hml.trans hl.1.symm) hown (hE.t w719 rfl) (hE.t w720 rfl) (hE.t w721 rfl) (hE.t w722 rfl) hK hP hD hS (26) (19) 1 rfl rfl rfl rfl (0) (0) (x.ssc) (by omega) (by omega) (by omega) (by omega) (by omega) (fun _ _ => rfl) (Nat.le_of_ble_eq_true rfl) (Nat.le_of_ble_eq_true rfl) d_H_takeParcels_39 (fun H locs hP hD hS => ?_)
  rw [cpyNI] at hP hD
  have hP : va_P D vwCl (VW dA h ad (VS.s_nsO (VS.s_npc (VS.s_nP x (va_cpy x.sP x.nP 0 0 x.spc)) x.spc) (va_cpy x.ssO x.nsO 0 0 x.ssc))) H := hP
  have hD : va_D A (VW dA h ad (VS.s_nsO (VS.s_npc (VS.s_nP x (va_cpy x.sP x.nP 0 0 x.spc)) x.spc) (va_cpy x.ssO x.nsO 0 0 x.ssc))) := hD
  refine lv_aload_n hx hb d_H_takeParcels_42 rfl (lv_at hl 1 rfl) ?_
  refine gF (v := .ref (ad 13)) hx hb hown hE hK hP 24 rfl rfl layH 3 (by decide) w201 rfl d_H_takeParcels_43 ?_
  refine lv_iconst (v := 0) hx hb d_H_takeParcels_46 (by decide) ?_
  refine lv_aload_n hx hb d_H_takeParcels_47 rfl (lv_at hl 0 rfl) ?_
  refine gF (v := .ref (ad 6)) hx hb hown hE hK hP 17 rfl rfl layH 3 (by decide) w201 rfl d_H_takeParcels_48 ?_
  refine lv_iconst (v := 0) hx hb d_H_takeParcels_51 (by decide) ?_
  refine lv_aload_n hx hb d_H_takeParcels_52 rfl (lv_at hl 1 rfl) ?_
  refine gF (v := .int (nI x.ssc)) hx hb hown hE hK hP 24 rfl rfl layH 6 (by decide) w567 rfl d_H_takeParcels_53 ?_
  refine ncpyl (f := x.ssF) (g := x.nsF) (n0 := 64) (n1 := 64) hx hb (hml.trans hl.1.symm) hown (hE.t w719 rfl) (hE.t w720 rfl) (hE.t w721 rfl) (hE.t w722 rfl) hK hP hD hS (27) (20) 2 rfl rfl rfl rfl (0) (0) (x.ssc) (by omega) (by omega) (by omega) (by omega) (by omega) (fun _ _ => rfl) (Nat.le_of_ble_eq_true rfl) (Nat.le_of_ble_eq_true rfl) d_H_takeParcels_56 (fun H locs hP hD hS => ?_)
  have hP : va_P D vwCl (VW dA h ad (VS.s_nsF (VS.s_nsO (VS.s_npc (VS.s_nP x (va_cpy x.sP x.nP 0 0 x.spc)) x.spc) (va_cpy x.ssO x.nsO 0 0 x.ssc)) (va_cpy x.ssF x.nsF 0 0 x.ssc))) H := hP
  have hD : va_D A (VW dA h ad (VS.s_nsF (VS.s_nsO (VS.s_npc (VS.s_nP x (va_cpy x.sP x.nP 0 0 x.spc)) x.spc) (va_cpy x.ssO x.nsO 0 0 x.ssc)) (va_cpy x.ssF x.nsF 0 0 x.ssc))) := hD
  refine lv_aload_n hx hb d_H_takeParcels_59 rfl (lv_at hl 1 rfl) ?_
  refine gF (v := .ref (ad 14)) hx hb hown hE hK hP 24 rfl rfl layH 4 (by decide) w202 rfl d_H_takeParcels_60 ?_
  refine lv_iconst (v := 0) hx hb d_H_takeParcels_63 (by decide) ?_
  refine lv_aload_n hx hb d_H_takeParcels_64 rfl (lv_at hl 0 rfl) ?_
  refine gF (v := .ref (ad 7)) hx hb hown hE hK hP 17 rfl rfl layH 4 (by decide) w202 rfl d_H_takeParcels_65 ?_
  refine lv_iconst (v := 0) hx hb d_H_takeParcels_68 (by decide) ?_
  refine lv_aload_n hx hb d_H_takeParcels_69 rfl (lv_at hl 1 rfl) ?_
  refine gF (v := .int (nI x.ssc)) hx hb hown hE hK hP 24 rfl rfl layH 6 (by decide) w567 rfl d_H_takeParcels_70 ?_
  refine ncpyl (f := x.ssT) (g := x.nsT) (n0 := 64) (n1 := 64) hx hb (hml.trans hl.1.symm) hown (hE.t w719 rfl) (hE.t w720 rfl) (hE.t w721 rfl) (hE.t w722 rfl) hK hP hD hS (28) (21) 2 rfl rfl rfl rfl (0) (0) (x.ssc) (by omega) (by omega) (by omega) (by omega) (by omega) (fun _ _ => rfl) (Nat.le_of_ble_eq_true rfl) (Nat.le_of_ble_eq_true rfl) d_H_takeParcels_73 (fun H locs hP hD hS => ?_)
  have hP : va_P D vwCl (VW dA h ad (VS.s_nsT (VS.s_nsF (VS.s_nsO (VS.s_npc (VS.s_nP x (va_cpy x.sP x.nP 0 0 x.spc)) x.spc) (va_cpy x.ssO x.nsO 0 0 x.ssc)) (va_cpy x.ssF x.nsF 0 0 x.ssc)) (va_cpy x.ssT x.nsT 0 0 x.ssc))) H := hP
  have hD : va_D A (VW dA h ad (VS.s_nsT (VS.s_nsF (VS.s_nsO (VS.s_npc (VS.s_nP x (va_cpy x.sP x.nP 0 0 x.spc)) x.spc) (va_cpy x.ssO x.nsO 0 0 x.ssc)) (va_cpy x.ssF x.nsF 0 0 x.ssc)) (va_cpy x.ssT x.nsT 0 0 x.ssc))) := hD
  refine lv_aload_n hx hb d_H_takeParcels_76 rfl (lv_at hl 0 rfl) ?_
  refine lv_aload_n hx hb d_H_takeParcels_77 rfl (lv_at hl 1 rfl) ?_
  refine gF (v := .int (nI x.ssc)) hx hb hown hE hK hP 24 rfl rfl layH 6 (by decide) w567 rfl d_H_takeParcels_78 ?_
  refine pF (v := .int (nI x.ssc)) hx hb hown hE hK hP hD hS 17 rfl rfl layH tyH tokH nmH 6 (by decide) w567 rfl rfl rfl (Nat.le_of_ble_eq_true rfl) d_H_takeParcels_81 (fun H locs hP hD hS => ?_)
  have hP : va_P D vwCl (VW dA h ad (VS.s_nsc (VS.s_nsT (VS.s_nsF (VS.s_nsO (VS.s_npc (VS.s_nP x (va_cpy x.sP x.nP 0 0 x.spc)) x.spc) (va_cpy x.ssO x.nsO 0 0 x.ssc)) (va_cpy x.ssF x.nsF 0 0 x.ssc)) (va_cpy x.ssT x.nsT 0 0 x.ssc)) x.ssc)) H := hP
  have hD : va_D A (VW dA h ad (VS.s_nsc (VS.s_nsT (VS.s_nsF (VS.s_nsO (VS.s_npc (VS.s_nP x (va_cpy x.sP x.nP 0 0 x.spc)) x.spc) (va_cpy x.ssO x.nsO 0 0 x.ssc)) (va_cpy x.ssF x.nsF 0 0 x.ssc)) (va_cpy x.ssT x.nsT 0 0 x.ssc)) x.ssc)) := hD
  refine lv_aload_n hx hb d_H_takeParcels_84 rfl (lv_at hl 0 rfl) ?_
  refine lv_aload_n hx hb d_H_takeParcels_85 rfl (lv_at hl 1 rfl) ?_
  refine gF (v := .long x.shor) hx hb hown hE hK hP 24 rfl rfl layH 7 (by decide) w568 rfl d_H_takeParcels_86 ?_
  refine pF (v := .long x.shor) hx hb hown hE hK hP hD hS 17 rfl rfl layH tyH tokH nmH 7 (by decide) w568 rfl rfl rfl (Nat.le_of_ble_eq_true rfl) d_H_takeParcels_89 (fun H locs hP hD hS => ?_)
  have hP : va_P D vwCl (VW dA h ad (VS.s_nhor (VS.s_nsc (VS.s_nsT (VS.s_nsF (VS.s_nsO (VS.s_npc (VS.s_nP x (va_cpy x.sP x.nP 0 0 x.spc)) x.spc) (va_cpy x.ssO x.nsO 0 0 x.ssc)) (va_cpy x.ssF x.nsF 0 0 x.ssc)) (va_cpy x.ssT x.nsT 0 0 x.ssc)) x.ssc) x.shor)) H := hP
  have hD : va_D A (VW dA h ad (VS.s_nhor (VS.s_nsc (VS.s_nsT (VS.s_nsF (VS.s_nsO (VS.s_npc (VS.s_nP x (va_cpy x.sP x.nP 0 0 x.spc)) x.spc) (va_cpy x.ssO x.nsO 0 0 x.ssc)) (va_cpy x.ssF x.nsF 0 0 x.ssc)) (va_cpy x.ssT x.nsT 0 0 x.ssc)) x.ssc) x.shor)) := hD
  exact rfV hx hb hr hlk hS () trivial hP hD (Nat.le_of_ble_eq_true rfl) (Nat.le_of_ble_eq_true rfl) d_H_takeParcels_92
set_option maxHeartbeats 4000000 in
set_option maxRecDepth 100000 in
theorem v_takeCatalog_n (l : Launch) (D : va_G) (dA : Nat → ClassId) (sz : Nat) (h : Nat) (ad : Nat → Nat) (x : VS) (h1 : x.sser ≤ 256) : Met l ⟨"SeriesVault$Shelf", "takeCatalog", "(LSeriesVault$Shelf;)V"⟩ [Cond.code ⟨"SeriesVault$Shelf", "takeCatalog", "(LSeriesVault$Shelf;)V"⟩ prog_9_method_4_code 2 none] { frames := 1, cells := 0, slots := 0, locals := 40 } (pC D dA [.ref (ad 3), .ref (ad 10)] (VW dA h ad x) sz) (va_Qv (fun (u9 : Unit) => True) (fun (u9 : Unit) t9 => bW D (va_A (VW dA h ad x) sz) (VW dA h ad (VS.s_ncat (VS.s_nlast (VS.s_nser x x.sser) (va_cpy x.slast x.nlast 0 0 x.sser)) x.scat)) t9) (va_A (VW dA h ad x) sz)) 0 0 (va_A (VW dA h ad x) sz) := by
  refine mkC (y := ⟨"SeriesVault$Shelf", "takeCatalog", "(LSeriesVault$Shelf;)V"⟩) (cc := prog_9_method_4_code) (maxL := 2) (av := [.ref (ad 3), .ref (ad 10)]) (ws := VW dA h ad x) (sz := sz) (Qc := fun A => va_Qv (fun (u9 : Unit) => True) (fun (u9 : Unit) t9 => bW D A (VW dA h ad (VS.s_ncat (VS.s_nlast (VS.s_nser x x.sser) (va_cpy x.slast x.nlast 0 0 x.sser)) x.scat)) t9) A) (by decide) (Nat.le_of_ble_eq_true rfl) ?_
  intro A p e s m below meth c ls hsz hB
  obtain ⟨hx, hb, hr, hml, hown, hin, hlk, hE, hK, hP, hD, hS, hA, hN, hl⟩ := hB
  have hown : s.vm.findClass "SeriesVault$Shelf" = some m.cls := hown
  have hl : lv_has ls 2 [(0, .ref (ad 3)), (1, .ref (ad 10))] := hl
  obtain ⟨H, hH⟩ : ∃ z, z = s.heap := ⟨_, rfl⟩
  have hP : va_P D vwCl (VW dA h ad x) H := by rw [hH]; exact hP
  have hS : va_S A s.heap H [] := by rw [hH]; exact hS
  rw [← hH]
  refine lv_aload_n hx hb d_H_takeCatalog_0 rfl (lv_at hl 1 rfl) ?_
  refine gF (v := .ref (ad 16)) hx hb hown hE hK hP 24 rfl rfl layH 9 (by decide) w204 rfl d_H_takeCatalog_1 ?_
  refine lv_iconst (v := 0) hx hb d_H_takeCatalog_4 (by decide) ?_
  refine lv_aload_n hx hb d_H_takeCatalog_5 rfl (lv_at hl 0 rfl) ?_
  refine gF (v := .ref (ad 9)) hx hb hown hE hK hP 17 rfl rfl layH 9 (by decide) w204 rfl d_H_takeCatalog_6 ?_
  refine lv_iconst (v := 0) hx hb d_H_takeCatalog_9 (by decide) ?_
  refine lv_aload_n hx hb d_H_takeCatalog_10 rfl (lv_at hl 1 rfl) ?_
  refine gF (v := .int (nI x.sser)) hx hb hown hE hK hP 24 rfl rfl layH 8 (by decide) w569 rfl d_H_takeCatalog_11 ?_
  refine ncpyl (f := x.slast) (g := x.nlast) (n0 := 256) (n1 := 256) hx hb (hml.trans hl.1.symm) hown (hE.t w719 rfl) (hE.t w720 rfl) (hE.t w721 rfl) (hE.t w722 rfl) hK hP hD hS (30) (23) 2 rfl rfl rfl rfl (0) (0) (x.sser) (by omega) (by omega) (by omega) (by omega) (by omega) (fun _ _ => rfl) (Nat.le_of_ble_eq_true rfl) (Nat.le_of_ble_eq_true rfl) d_H_takeCatalog_14 (fun H locs hP hD hS => ?_)
  have hP : va_P D vwCl (VW dA h ad (VS.s_nlast x (va_cpy x.slast x.nlast 0 0 x.sser))) H := hP
  have hD : va_D A (VW dA h ad (VS.s_nlast x (va_cpy x.slast x.nlast 0 0 x.sser))) := hD
  refine lv_aload_n hx hb d_H_takeCatalog_17 rfl (lv_at hl 0 rfl) ?_
  refine lv_aload_n hx hb d_H_takeCatalog_18 rfl (lv_at hl 1 rfl) ?_
  refine gF (v := .int (nI x.sser)) hx hb hown hE hK hP 24 rfl rfl layH 8 (by decide) w569 rfl d_H_takeCatalog_19 ?_
  refine pF (v := .int (nI x.sser)) hx hb hown hE hK hP hD hS 17 rfl rfl layH tyH tokH nmH 8 (by decide) w569 rfl rfl rfl (Nat.le_of_ble_eq_true rfl) d_H_takeCatalog_22 (fun H locs hP hD hS => ?_)
  have hP : va_P D vwCl (VW dA h ad (VS.s_nlast (VS.s_nser x x.sser) (va_cpy x.slast x.nlast 0 0 x.sser))) H := hP
  have hD : va_D A (VW dA h ad (VS.s_nlast (VS.s_nser x x.sser) (va_cpy x.slast x.nlast 0 0 x.sser))) := hD
  refine lv_aload_n hx hb d_H_takeCatalog_25 rfl (lv_at hl 0 rfl) ?_
  refine lv_aload_n hx hb d_H_takeCatalog_26 rfl (lv_at hl 1 rfl) ?_
  refine gF (v := .int (nI x.scat)) hx hb hown hE hK hP 24 rfl rfl layH 10 (by decide) w570 rfl d_H_takeCatalog_27 ?_
  refine pF (v := .int (nI x.scat)) hx hb hown hE hK hP hD hS 17 rfl rfl layH tyH tokH nmH 10 (by decide) w570 rfl rfl rfl (Nat.le_of_ble_eq_true rfl) d_H_takeCatalog_30 (fun H locs hP hD hS => ?_)
  have hP : va_P D vwCl (VW dA h ad (VS.s_ncat (VS.s_nlast (VS.s_nser x x.sser) (va_cpy x.slast x.nlast 0 0 x.sser)) x.scat)) H := hP
  have hD : va_D A (VW dA h ad (VS.s_ncat (VS.s_nlast (VS.s_nser x x.sser) (va_cpy x.slast x.nlast 0 0 x.sser)) x.scat)) := hD
  exact rfV hx hb hr hlk hS () trivial hP hD (Nat.le_of_ble_eq_true rfl) (Nat.le_of_ble_eq_true rfl) d_H_takeCatalog_33
theorem d_H_putTogether_0 : decode prog_9_method_8_code 0 = .ok (.iload_n 1, 1) := by decide +kernel
theorem d_H_putTogether_1 : decode prog_9_method_8_code 1 = .ok (.istore_n 3, 1) := by decide +kernel
theorem d_H_putTogether_2 : decode prog_9_method_8_code 2 = .ok (.aload_n 2, 1) := by decide +kernel
theorem d_H_putTogether_3 : decode prog_9_method_8_code 3 = .ok (.ifnull 13, 3) := by decide +kernel
theorem d_H_putTogether_16 : decode prog_9_method_8_code 16 = .ok (.iload_n 1, 1) := by decide +kernel
theorem d_H_putTogether_17 : decode prog_9_method_8_code 17 = .ok (.iconst 2, 1) := by decide +kernel
theorem d_H_putTogether_18 : decode prog_9_method_8_code 18 = .ok (.iadd, 1) := by decide +kernel
theorem d_H_putTogether_19 : decode prog_9_method_8_code 19 = .ok (.istore 4, 2) := by decide +kernel
theorem d_H_putTogether_21 : decode prog_9_method_8_code 21 = .ok (.iload 4, 2) := by decide +kernel
theorem d_H_putTogether_23 : decode prog_9_method_8_code 23 = .ok (.aload_n 0, 1) := by decide +kernel
theorem d_H_putTogether_24 : decode prog_9_method_8_code 24 = .ok (.getfield 34, 3) := by decide +kernel
theorem d_H_putTogether_27 : decode prog_9_method_8_code 27 = .ok (.if_icmp .ge 25, 3) := by decide +kernel
theorem d_H_putTogether_52 : decode prog_9_method_8_code 52 = .ok (.aload_n 0, 1) := by decide +kernel
theorem d_H_putTogether_53 : decode prog_9_method_8_code 53 = .ok (.iload_n 3, 1) := by decide +kernel
theorem d_H_putTogether_54 : decode prog_9_method_8_code 54 = .ok (.putfield 34, 3) := by decide +kernel
theorem d_H_putTogether_57 : decode prog_9_method_8_code 57 = .ok (.return_, 1) := by decide +kernel
theorem d_H_putTogether_30 : decode prog_9_method_8_code 30 = .ok (.aload_n 0, 1) := by decide +kernel
theorem d_H_putTogether_31 : decode prog_9_method_8_code 31 = .ok (.getfield 11, 3) := by decide +kernel
theorem d_H_putTogether_34 : decode prog_9_method_8_code 34 = .ok (.iload_n 3, 1) := by decide +kernel
theorem d_H_putTogether_35 : decode prog_9_method_8_code 35 = .ok (.aload_n 0, 1) := by decide +kernel
theorem d_H_putTogether_36 : decode prog_9_method_8_code 36 = .ok (.getfield 11, 3) := by decide +kernel
theorem d_H_putTogether_39 : decode prog_9_method_8_code 39 = .ok (.iload 4, 2) := by decide +kernel
theorem d_H_putTogether_41 : decode prog_9_method_8_code 41 = .ok (.aaload, 1) := by decide +kernel
theorem d_H_putTogether_42 : decode prog_9_method_8_code 42 = .ok (.aastore, 1) := by decide +kernel
theorem d_H_putTogether_43 : decode prog_9_method_8_code 43 = .ok (.iinc 3 1, 3) := by decide +kernel
theorem d_H_putTogether_46 : decode prog_9_method_8_code 46 = .ok (.iinc 4 1, 3) := by decide +kernel
theorem d_H_putTogether_49 : decode prog_9_method_8_code 49 = .ok (.goto (-28), 3) := by decide +kernel
set_option maxHeartbeats 4000000 in
set_option maxRecDepth 100000 in
theorem v_putTogether_0 (l : Launch) (D : va_G) (dA : Nat → ClassId) (sz : Nat) (h : Nat) (ad : Nat → Nat) (x : VS) (PS : Nat → PT) (k : Nat) (hps : psOk dA x.nP x.npc x.pl PS) (hpn : x.npc ≤ 32) (hk : k + 2 ≤ x.npc) : Met l ⟨"SeriesVault$Shelf", "putTogether", "(ILSeriesVault$Parcel;)V"⟩ [Cond.code ⟨"SeriesVault$Shelf", "putTogether", "(ILSeriesVault$Parcel;)V"⟩ prog_9_method_8_code 5 none] { frames := 1, cells := 0, slots := 0, locals := 0 } (pC D dA [.ref (ad 3), .int (nI k), .null] (VW dA h ad x) sz) (va_Qv (fun (u9 : Unit) => True) (fun (u9 : Unit) t9 => bW D (va_A (VW dA h ad x) sz) (VW dA h ad (VS.s_npc (VS.s_nP x (sfT x.nP k 2 (x.npc - (k + 2)))) (x.npc - 2))) t9) (va_A (VW dA h ad x) sz)) 0 0 (va_A (VW dA h ad x) sz) := by
  refine mkC (y := ⟨"SeriesVault$Shelf", "putTogether", "(ILSeriesVault$Parcel;)V"⟩) (cc := prog_9_method_8_code) (maxL := 5) (av := [.ref (ad 3), .int (nI k), .null]) (ws := VW dA h ad x) (sz := sz) (Qc := fun A => va_Qv (fun (u9 : Unit) => True) (fun (u9 : Unit) t9 => bW D A (VW dA h ad (VS.s_npc (VS.s_nP x (sfT x.nP k 2 (x.npc - (k + 2)))) (x.npc - 2))) t9) A) (by decide) (Nat.le_of_ble_eq_true rfl) ?_
  intro A p e s m below meth c ls hsz hB
  obtain ⟨hx, hb, hr, hml, hown, hin, hlk, hE, hK, hP, hD, hS, hA, hN, hl⟩ := hB
  have hown : s.vm.findClass "SeriesVault$Shelf" = some m.cls := hown
  have hl : lv_has ls 5 [(0, .ref (ad 3)), (1, .int (nI k)), (2, .null)] := hl
  obtain ⟨H, hH⟩ : ∃ z, z = s.heap := ⟨_, rfl⟩
  have hP : va_P D vwCl (VW dA h ad x) H := by rw [hH]; exact hP
  have hS : va_S A s.heap H [] := by rw [hH]; exact hS
  rw [← hH]
  refine lv_iload_n hx hb d_H_putTogether_0 rfl (lv_at hl 1 rfl) ?_
  refine lv_istore_n hx hb d_H_putTogether_1 rfl hl (by decide) rfl (fun ls hl => ?_)
  have hl : lv_has ls 5 [(3, .int (nI k)), (0, .ref (ad 3)), (1, .int (nI k)), (2, .null)] := hl
  refine lv_aload_nN hx hb d_H_putTogether_2 rfl (lv_at hl 3 rfl) ?_
  refine lv_ifnullN hx hb d_H_putTogether_3 (tgt := 16) rfl ?_
  refine lv_iload_n hx hb d_H_putTogether_16 rfl (lv_at hl 2 rfl) ?_
  refine lv_iconst (v := 2) hx hb d_H_putTogether_17 (by decide) ?_
  refine lv_iadd hx hb d_H_putTogether_18 (tpi (y := nI (k + 2)) (nI_add (k) (2)) ?_)
  refine lv_istore hx hb d_H_putTogether_19 hl (by decide) rfl (fun ls hl => ?_)
  have hl : lv_has ls 5 [(4, .int (nI (k + 2))), (3, .int (nI k)), (0, .ref (ad 3)), (1, .int (nI k)), (2, .null)] := hl
  have L21 : ∀ (k9 : Nat) (j : Nat) (i1 : k + 2 + j ≤ x.npc) (hk9 : x.npc - j = k9), ∀ (H : Heap) (locs : List Loc) (ls : Array Slot) (hP : va_P D vwCl (VW dA h ad (VS.s_nP x (sfT x.nP k 2 j))) H) (hD : va_D A (VW dA h ad (VS.s_nP x (sfT x.nP k 2 j)))) (hS : va_S A s.heap H locs) (hl : lv_has ls 5 [(3, .int (nI (k + j))), (4, .int (nI (k + 2 + j))), (1, .int (nI k)), (0, .ref (ad 3))]), W p l e ({ frames := 1, cells := 0, slots := 0, locals := 0 } : Room) s m ([.ref (ad 3), .int (nI k), .null] : List Value).toArray below meth c H locs 0 0 (MQ below (va_Qv (fun (u9 : Unit) => True) (fun (u9 : Unit) t9 => bW D A (VW dA h ad (VS.s_npc (VS.s_nP x (sfT x.nP k 2 (x.npc - (k + 2)))) (x.npc - 2))) t9) A) ([.ref (ad 3), .int (nI k), .null] : List Value).toArray s 0 0 A) (F0 m 21 ls []) := by
    intro k9
    induction k9 using Nat.strongRecOn with
    | ind k9 ih21 =>
      intro j i1 hk9 H locs ls hP hD hS hl
      refine lv_iload hx hb d_H_putTogether_21 (lv_at hl 1 rfl) ?_
      refine lv_aload_n hx hb d_H_putTogether_23 rfl (lv_at hl 3 rfl) ?_
      refine gF (v := .int (nI x.npc)) hx hb hown hE hK hP 17 rfl rfl layH 1 (by decide) w566 rfl d_H_putTogether_24 ?_
      refine lv_icmp_ge hx hb d_H_putTogether_27 (tgt := 52) rfl (fun g1 => ?_) (fun g1 => ?_)
      · have g1 := (nI_leI (a := x.npc) (b := k + 2 + j) (by omega) (by omega)).mp g1
        refine lv_aload_n hx hb d_H_putTogether_52 rfl (lv_at hl 3 rfl) ?_
        refine lv_iload_n hx hb d_H_putTogether_53 rfl (lv_at hl 0 rfl) ?_
        refine pF (v := .int (nI (k + j))) hx hb hown hE hK hP hD hS 17 rfl rfl layH tyH tokH nmH 1 (by decide) w566 rfl rfl rfl (Nat.le_of_ble_eq_true rfl) d_H_putTogether_54 (fun H locs hP hD hS => ?_)
        have hP : va_P D vwCl (VW dA h ad (VS.s_npc (VS.s_nP x (sfT x.nP k 2 j)) (k + j))) H := hP
        have hD : va_D A (VW dA h ad (VS.s_npc (VS.s_nP x (sfT x.nP k 2 j)) (k + j))) := hD
        have e9 : (VS.s_npc (VS.s_nP x (sfT x.nP k 2 j)) (k + j) : VS) = VS.s_npc (VS.s_nP x (sfT x.nP k 2 (x.npc - (k + 2)))) (x.npc - 2) := by rw [show (sfT x.nP k 2 (x.npc - (k + 2))) = (sfT x.nP k 2 j) from by (rw [show x.npc - (k + 2) = j by omega]), show (x.npc - 2) = (k + j) from by omega] <;> rfl
        exact rfV hx hb hr hlk hS () trivial (cvPv e9 hP) (cvDv e9 hD) (Nat.le_of_ble_eq_true rfl) (Nat.le_of_ble_eq_true rfl) d_H_putTogether_57
      · have g1 := mt (nI_leI (a := x.npc) (b := k + 2 + j) (by omega) (by omega)).mpr g1
        obtain ⟨pp, ke, hpp, hpk⟩ := hps (k + 2 + j) (by omega)
        have hpp0 := hpp
        obtain ⟨po, pt, pv, m1, m2, m3, m4⟩ := hpp
        have pk1 := hpk.1
        refine lv_aload_n hx hb d_H_putTogether_30 rfl (lv_at hl 3 rfl) ?_
        refine gF (v := .ref (ad 4)) hx hb hown hE hK hP 17 rfl rfl layH 0 (by decide) w199 rfl d_H_putTogether_31 ?_
        refine lv_iload_n hx hb d_H_putTogether_34 rfl (lv_at hl 0 rfl) ?_
        refine lv_aload_n hx hb d_H_putTogether_35 rfl (lv_at hl 3 rfl) ?_
        refine gF (v := .ref (ad 4)) hx hb hown hE hK hP 17 rfl rfl layH 0 (by decide) w199 rfl d_H_putTogether_36 ?_
        refine lv_iload hx hb d_H_putTogether_39 (lv_at hl 1 rfl) ?_
        refine nqld (f := (sfT x.nP k 2 j)) (n := 32) hx hb hK hP (18) 4 rfl rfl (k + 2 + j) (by omega) (by decide) ((sfT_at _ (by omega)).trans (show x.nP (k + 2 + j) = some pp from by exact ke)) d_H_putTogether_41 ?_
        obtain ⟨qp2, ep3⟩ := plv (dA := dA) (h := h) (ad := ad) (x := VS.s_nP x (sfT x.nP k 2 j)) m1
        refine nqst (r := ("SeriesVault$Parcel", TC, 8)) (f := (sfT x.nP k 2 j)) (n := 32) hx hb hK hP hD hS (18) 4 qp2 12 rfl rfl ep3 rfl (k + j) (by omega) (by decide) d_H_putTogether_42 (fun H locs hP hD hS => ?_)
        have hP : va_P D vwCl (VW dA h ad (VS.s_nP x (va_up (sfT x.nP k 2 j) (k + j) (some pp)))) H := hP
        have hD : va_D A (VW dA h ad (VS.s_nP x (va_up (sfT x.nP k 2 j) (k + j) (some pp)))) := hD
        refine lv_iinc (k := 0) (v := nI (k + j + 1)) hx hb d_H_putTogether_43 hl rfl (iincN (k + j) 1 1 (by decide)) (by decide) rfl (fun ls hl => ?_)
        have hl : lv_has ls 5 [(3, .int (nI (k + j + 1))), (4, .int (nI (k + 2 + j))), (1, .int (nI k)), (0, .ref (ad 3))] := hl
        refine lv_iinc (k := 1) (v := nI (k + 2 + j + 1)) hx hb d_H_putTogether_46 hl rfl (iincN (k + 2 + j) 1 1 (by decide)) (by decide) rfl (fun ls hl => ?_)
        have hl : lv_has ls 5 [(4, .int (nI (k + 2 + j + 1))), (3, .int (nI (k + j + 1))), (1, .int (nI k)), (0, .ref (ad 3))] := hl
        refine lv_goto hx hb d_H_putTogether_49 (tgt := 21) rfl ?_
        have e9 : (VS.s_nP x (va_up (sfT x.nP k 2 j) (k + j) (some pp)) : VS) = VS.s_nP x (sfT x.nP k 2 (j + 1)) := by rw [show (sfT x.nP k 2 (j + 1)) = (va_up (sfT x.nP k 2 j) (k + j) (some pp)) from (sfT_s (g := x.nP) (st := k) (d := 2) (n := j) (v := some pp) (by rw [show k + j + 2 = k + 2 + j by omega]; exact (show x.nP (k + 2 + j) = some pp from by exact ke).symm))] <;> rfl
        exact ih21 _ (by omega) (j + 1) (by omega) rfl H _ ls (cvPv e9 hP) (cvDv e9 hD) hS (lv_sub hl [1, 0, 2, 3] rfl)
  have e9 : (x : VS) = VS.s_nP x (sfT x.nP k 2 0) := by rw [show (sfT x.nP k 2 0) = x.nP from (sfT_0 _ _ _)] <;> rfl
  exact L21 _ 0 (by omega) rfl H _ ls (cvPv e9 hP) (cvDv e9 hD) hS (lv_sub hl [1, 0, 3, 2] rfl)
theorem d_H_putTogether_6 : decode prog_9_method_8_code 6 = .ok (.aload_n 0, 1) := by decide +kernel
theorem d_H_putTogether_7 : decode prog_9_method_8_code 7 = .ok (.getfield 11, 3) := by decide +kernel
theorem d_H_putTogether_10 : decode prog_9_method_8_code 10 = .ok (.iload_n 3, 1) := by decide +kernel
theorem d_H_putTogether_11 : decode prog_9_method_8_code 11 = .ok (.aload_n 2, 1) := by decide +kernel
theorem d_H_putTogether_12 : decode prog_9_method_8_code 12 = .ok (.aastore, 1) := by decide +kernel
theorem d_H_putTogether_13 : decode prog_9_method_8_code 13 = .ok (.iinc 3 1, 3) := by decide +kernel
set_option maxHeartbeats 4000000 in
set_option maxRecDepth 100000 in
theorem v_putTogether_1 (l : Launch) (D : va_G) (dA : Nat → ClassId) (sz : Nat) (h : Nat) (ad : Nat → Nat) (x : VS) (PS : Nat → PT) (k : Nat) (pp0 : Nat) (P : PT) (hps : psOk dA x.nP x.npc x.pl PS) (hpn : x.npc ≤ 32) (hk : k + 2 ≤ x.npc) (hpp0 : isPc dA x.pl pp0 P) : Met l ⟨"SeriesVault$Shelf", "putTogether", "(ILSeriesVault$Parcel;)V"⟩ [Cond.code ⟨"SeriesVault$Shelf", "putTogether", "(ILSeriesVault$Parcel;)V"⟩ prog_9_method_8_code 5 none] { frames := 1, cells := 0, slots := 0, locals := 0 } (pC D dA [.ref (ad 3), .int (nI k), .ref pp0] (VW dA h ad x) sz) (va_Qv (fun (u9 : Unit) => True) (fun (u9 : Unit) t9 => bW D (va_A (VW dA h ad x) sz) (VW dA h ad (VS.s_npc (VS.s_nP x (sfT (va_up x.nP k (some pp0)) (k + 1) 1 (x.npc - (k + 2)))) (x.npc - 1))) t9) (va_A (VW dA h ad x) sz)) 0 0 (va_A (VW dA h ad x) sz) := by
  refine mkC (y := ⟨"SeriesVault$Shelf", "putTogether", "(ILSeriesVault$Parcel;)V"⟩) (cc := prog_9_method_8_code) (maxL := 5) (av := [.ref (ad 3), .int (nI k), .ref pp0]) (ws := VW dA h ad x) (sz := sz) (Qc := fun A => va_Qv (fun (u9 : Unit) => True) (fun (u9 : Unit) t9 => bW D A (VW dA h ad (VS.s_npc (VS.s_nP x (sfT (va_up x.nP k (some pp0)) (k + 1) 1 (x.npc - (k + 2)))) (x.npc - 1))) t9) A) (by decide) (Nat.le_of_ble_eq_true rfl) ?_
  intro A p e s m below meth c ls hsz hB
  obtain ⟨hx, hb, hr, hml, hown, hin, hlk, hE, hK, hP, hD, hS, hA, hN, hl⟩ := hB
  have hown : s.vm.findClass "SeriesVault$Shelf" = some m.cls := hown
  have hl : lv_has ls 5 [(0, .ref (ad 3)), (1, .int (nI k)), (2, .ref pp0)] := hl
  obtain ⟨H, hH⟩ : ∃ z, z = s.heap := ⟨_, rfl⟩
  have hP : va_P D vwCl (VW dA h ad x) H := by rw [hH]; exact hP
  have hS : va_S A s.heap H [] := by rw [hH]; exact hS
  rw [← hH]
  have hp00 := hpp0
  obtain ⟨po0, pt0, pv0, n1, n2, n3, n4⟩ := hpp0
  refine lv_iload_n hx hb d_H_putTogether_0 rfl (lv_at hl 1 rfl) ?_
  refine lv_istore_n hx hb d_H_putTogether_1 rfl hl (by decide) rfl (fun ls hl => ?_)
  have hl : lv_has ls 5 [(3, .int (nI k)), (0, .ref (ad 3)), (1, .int (nI k)), (2, .ref pp0)] := hl
  refine lv_aload_n hx hb d_H_putTogether_2 rfl (lv_at hl 3 rfl) ?_
  refine lv_ifnull hx hb d_H_putTogether_3 ?_
  refine lv_aload_n hx hb d_H_putTogether_6 rfl (lv_at hl 1 rfl) ?_
  refine gF (v := .ref (ad 4)) hx hb hown hE hK hP 17 rfl rfl layH 0 (by decide) w199 rfl d_H_putTogether_7 ?_
  refine lv_iload_n hx hb d_H_putTogether_10 rfl (lv_at hl 0 rfl) ?_
  refine lv_aload_n hx hb d_H_putTogether_11 rfl (lv_at hl 3 rfl) ?_
  obtain ⟨qp1, ep2⟩ := plv (dA := dA) (h := h) (ad := ad) (x := x) n1
  refine nqst (r := ("SeriesVault$Parcel", TC, 8)) (f := x.nP) (n := 32) hx hb hK hP hD hS (18) 4 qp1 12 rfl rfl ep2 rfl (k) (by omega) (by decide) d_H_putTogether_12 (fun H locs hP hD hS => ?_)
  have hP : va_P D vwCl (VW dA h ad (VS.s_nP x (va_up x.nP k (some pp0)))) H := hP
  have hD : va_D A (VW dA h ad (VS.s_nP x (va_up x.nP k (some pp0)))) := hD
  refine lv_iinc (k := 0) (v := nI (k + 1)) hx hb d_H_putTogether_13 hl rfl (iincN (k) 1 1 (by decide)) (by decide) rfl (fun ls hl => ?_)
  have hl : lv_has ls 5 [(3, .int (nI (k + 1))), (0, .ref (ad 3)), (1, .int (nI k)), (2, .ref pp0)] := hl
  refine lv_iload_n hx hb d_H_putTogether_16 rfl (lv_at hl 2 rfl) ?_
  refine lv_iconst (v := 2) hx hb d_H_putTogether_17 (by decide) ?_
  refine lv_iadd hx hb d_H_putTogether_18 (tpi (y := nI (k + 2)) (nI_add (k) (2)) ?_)
  refine lv_istore hx hb d_H_putTogether_19 hl (by decide) rfl (fun ls hl => ?_)
  have hl : lv_has ls 5 [(4, .int (nI (k + 2))), (3, .int (nI (k + 1))), (0, .ref (ad 3)), (1, .int (nI k)), (2, .ref pp0)] := hl
  have L21 : ∀ (k9 : Nat) (j : Nat) (i1 : k + 2 + j ≤ x.npc) (hk9 : x.npc - j = k9), ∀ (H : Heap) (locs : List Loc) (ls : Array Slot) (hP : va_P D vwCl (VW dA h ad (VS.s_nP x (sfT (va_up x.nP k (some pp0)) (k + 1) 1 j))) H) (hD : va_D A (VW dA h ad (VS.s_nP x (sfT (va_up x.nP k (some pp0)) (k + 1) 1 j)))) (hS : va_S A s.heap H locs) (hl : lv_has ls 5 [(3, .int (nI (k + 1 + j))), (4, .int (nI (k + 2 + j))), (1, .int (nI k)), (0, .ref (ad 3))]), W p l e ({ frames := 1, cells := 0, slots := 0, locals := 0 } : Room) s m ([.ref (ad 3), .int (nI k), .ref pp0] : List Value).toArray below meth c H locs 0 0 (MQ below (va_Qv (fun (u9 : Unit) => True) (fun (u9 : Unit) t9 => bW D A (VW dA h ad (VS.s_npc (VS.s_nP x (sfT (va_up x.nP k (some pp0)) (k + 1) 1 (x.npc - (k + 2)))) (x.npc - 1))) t9) A) ([.ref (ad 3), .int (nI k), .ref pp0] : List Value).toArray s 0 0 A) (F0 m 21 ls []) := by
    intro k9
    induction k9 using Nat.strongRecOn with
    | ind k9 ih21 =>
      intro j i1 hk9 H locs ls hP hD hS hl
      refine lv_iload hx hb d_H_putTogether_21 (lv_at hl 1 rfl) ?_
      refine lv_aload_n hx hb d_H_putTogether_23 rfl (lv_at hl 3 rfl) ?_
      refine gF (v := .int (nI x.npc)) hx hb hown hE hK hP 17 rfl rfl layH 1 (by decide) w566 rfl d_H_putTogether_24 ?_
      refine lv_icmp_ge hx hb d_H_putTogether_27 (tgt := 52) rfl (fun g3 => ?_) (fun g3 => ?_)
      · have g3 := (nI_leI (a := x.npc) (b := k + 2 + j) (by omega) (by omega)).mp g3
        refine lv_aload_n hx hb d_H_putTogether_52 rfl (lv_at hl 3 rfl) ?_
        refine lv_iload_n hx hb d_H_putTogether_53 rfl (lv_at hl 0 rfl) ?_
        refine pF (v := .int (nI (k + 1 + j))) hx hb hown hE hK hP hD hS 17 rfl rfl layH tyH tokH nmH 1 (by decide) w566 rfl rfl rfl (Nat.le_of_ble_eq_true rfl) d_H_putTogether_54 (fun H locs hP hD hS => ?_)
        have hP : va_P D vwCl (VW dA h ad (VS.s_npc (VS.s_nP x (sfT (va_up x.nP k (some pp0)) (k + 1) 1 j)) (k + 1 + j))) H := hP
        have hD : va_D A (VW dA h ad (VS.s_npc (VS.s_nP x (sfT (va_up x.nP k (some pp0)) (k + 1) 1 j)) (k + 1 + j))) := hD
        have e9 : (VS.s_npc (VS.s_nP x (sfT (va_up x.nP k (some pp0)) (k + 1) 1 j)) (k + 1 + j) : VS) = VS.s_npc (VS.s_nP x (sfT (va_up x.nP k (some pp0)) (k + 1) 1 (x.npc - (k + 2)))) (x.npc - 1) := by rw [show (sfT (va_up x.nP k (some pp0)) (k + 1) 1 (x.npc - (k + 2))) = (sfT (va_up x.nP k (some pp0)) (k + 1) 1 j) from by (rw [show x.npc - (k + 2) = j by omega]), show (x.npc - 1) = (k + 1 + j) from by omega] <;> rfl
        exact rfV hx hb hr hlk hS () trivial (cvPv e9 hP) (cvDv e9 hD) (Nat.le_of_ble_eq_true rfl) (Nat.le_of_ble_eq_true rfl) d_H_putTogether_57
      · have g3 := mt (nI_leI (a := x.npc) (b := k + 2 + j) (by omega) (by omega)).mpr g3
        obtain ⟨pp, ke, hpp, hpk⟩ := hps (k + 2 + j) (by omega)
        have hpp0 := hpp
        obtain ⟨po, pt, pv, m1, m2, m3, m4⟩ := hpp
        have pk1 := hpk.1
        refine lv_aload_n hx hb d_H_putTogether_30 rfl (lv_at hl 3 rfl) ?_
        refine gF (v := .ref (ad 4)) hx hb hown hE hK hP 17 rfl rfl layH 0 (by decide) w199 rfl d_H_putTogether_31 ?_
        refine lv_iload_n hx hb d_H_putTogether_34 rfl (lv_at hl 0 rfl) ?_
        refine lv_aload_n hx hb d_H_putTogether_35 rfl (lv_at hl 3 rfl) ?_
        refine gF (v := .ref (ad 4)) hx hb hown hE hK hP 17 rfl rfl layH 0 (by decide) w199 rfl d_H_putTogether_36 ?_
        refine lv_iload hx hb d_H_putTogether_39 (lv_at hl 1 rfl) ?_
        refine nqld (f := (sfT (va_up x.nP k (some pp0)) (k + 1) 1 j)) (n := 32) hx hb hK hP (18) 4 rfl rfl (k + 2 + j) (by omega) (by decide) ((sfT_at _ (by omega)).trans (show (va_up x.nP k (some pp0)) (k + 2 + j) = some pp from by unfold va_up; rw [if_neg (by omega)]; exact ke)) d_H_putTogether_41 ?_
        obtain ⟨qp4, ep5⟩ := plv (dA := dA) (h := h) (ad := ad) (x := VS.s_nP x (sfT (va_up x.nP k (some pp0)) (k + 1) 1 j)) m1
        refine nqst (r := ("SeriesVault$Parcel", TC, 8)) (f := (sfT (va_up x.nP k (some pp0)) (k + 1) 1 j)) (n := 32) hx hb hK hP hD hS (18) 4 qp4 12 rfl rfl ep5 rfl (k + 1 + j) (by omega) (by decide) d_H_putTogether_42 (fun H locs hP hD hS => ?_)
        have hP : va_P D vwCl (VW dA h ad (VS.s_nP x (va_up (sfT (va_up x.nP k (some pp0)) (k + 1) 1 j) (k + 1 + j) (some pp)))) H := hP
        have hD : va_D A (VW dA h ad (VS.s_nP x (va_up (sfT (va_up x.nP k (some pp0)) (k + 1) 1 j) (k + 1 + j) (some pp)))) := hD
        refine lv_iinc (k := 0) (v := nI (k + 1 + j + 1)) hx hb d_H_putTogether_43 hl rfl (iincN (k + 1 + j) 1 1 (by decide)) (by decide) rfl (fun ls hl => ?_)
        have hl : lv_has ls 5 [(3, .int (nI (k + 1 + j + 1))), (4, .int (nI (k + 2 + j))), (1, .int (nI k)), (0, .ref (ad 3))] := hl
        refine lv_iinc (k := 1) (v := nI (k + 2 + j + 1)) hx hb d_H_putTogether_46 hl rfl (iincN (k + 2 + j) 1 1 (by decide)) (by decide) rfl (fun ls hl => ?_)
        have hl : lv_has ls 5 [(4, .int (nI (k + 2 + j + 1))), (3, .int (nI (k + 1 + j + 1))), (1, .int (nI k)), (0, .ref (ad 3))] := hl
        refine lv_goto hx hb d_H_putTogether_49 (tgt := 21) rfl ?_
        have e9 : (VS.s_nP x (va_up (sfT (va_up x.nP k (some pp0)) (k + 1) 1 j) (k + 1 + j) (some pp)) : VS) = VS.s_nP x (sfT (va_up x.nP k (some pp0)) (k + 1) 1 (j + 1)) := by rw [show (sfT (va_up x.nP k (some pp0)) (k + 1) 1 (j + 1)) = (va_up (sfT (va_up x.nP k (some pp0)) (k + 1) 1 j) (k + 1 + j) (some pp)) from (sfT_s (g := (va_up x.nP k (some pp0))) (st := (k + 1)) (d := 1) (n := j) (v := some pp) (by rw [show (k + 1) + j + 1 = k + 2 + j by omega]; exact (show (va_up x.nP k (some pp0)) (k + 2 + j) = some pp from by unfold va_up; rw [if_neg (by omega)]; exact ke).symm))] <;> rfl
        exact ih21 _ (by omega) (j + 1) (by omega) rfl H _ ls (cvPv e9 hP) (cvDv e9 hD) hS (lv_sub hl [1, 0, 2, 3] rfl)
  have e9 : (VS.s_nP x (va_up x.nP k (some pp0)) : VS) = VS.s_nP x (sfT (va_up x.nP k (some pp0)) (k + 1) 1 0) := by rw [show (sfT (va_up x.nP k (some pp0)) (k + 1) 1 0) = (va_up x.nP k (some pp0)) from (sfT_0 _ _ _)] <;> rfl
  exact L21 _ 0 (by omega) rfl H _ ls (cvPv e9 hP) (cvDv e9 hD) hS (lv_sub hl [1, 0, 3, 2] rfl)
theorem d_H_moveHorizon_19 : decode prog_9_method_9_code 19 = .ok (.aload_n 0, 1) := by decide +kernel
theorem d_H_moveHorizon_20 : decode prog_9_method_9_code 20 = .ok (.getfield 11, 3) := by decide +kernel
theorem d_H_moveHorizon_23 : decode prog_9_method_9_code 23 = .ok (.iload 4, 2) := by decide +kernel
theorem d_H_moveHorizon_25 : decode prog_9_method_9_code 25 = .ok (.aaload, 1) := by decide +kernel
theorem d_H_moveHorizon_26 : decode prog_9_method_9_code 26 = .ok (.getfield 62, 3) := by decide +kernel
theorem d_H_moveHorizon_29 : decode prog_9_method_9_code 29 = .ok (.lload_n 1, 1) := by decide +kernel
theorem d_H_moveHorizon_30 : decode prog_9_method_9_code 30 = .ok (.lcmp, 1) := by decide +kernel
theorem d_H_moveHorizon_31 : decode prog_9_method_9_code 31 = .ok (.ifCond .lt 19, 3) := by decide +kernel
theorem d_H_moveHorizon_50 : decode prog_9_method_9_code 50 = .ok (.iinc 4 1, 3) := by decide +kernel
theorem d_H_moveHorizon_53 : decode prog_9_method_9_code 53 = .ok (.goto (-43), 3) := by decide +kernel
theorem d_H_moveHorizon_34 : decode prog_9_method_9_code 34 = .ok (.aload_n 0, 1) := by decide +kernel
theorem d_H_moveHorizon_35 : decode prog_9_method_9_code 35 = .ok (.getfield 11, 3) := by decide +kernel
theorem d_H_moveHorizon_38 : decode prog_9_method_9_code 38 = .ok (.iload_n 3, 1) := by decide +kernel
theorem d_H_moveHorizon_39 : decode prog_9_method_9_code 39 = .ok (.aload_n 0, 1) := by decide +kernel
theorem d_H_moveHorizon_40 : decode prog_9_method_9_code 40 = .ok (.getfield 11, 3) := by decide +kernel
theorem d_H_moveHorizon_43 : decode prog_9_method_9_code 43 = .ok (.iload 4, 2) := by decide +kernel
theorem d_H_moveHorizon_45 : decode prog_9_method_9_code 45 = .ok (.aaload, 1) := by decide +kernel
theorem d_H_moveHorizon_46 : decode prog_9_method_9_code 46 = .ok (.aastore, 1) := by decide +kernel
theorem d_H_moveHorizon_47 : decode prog_9_method_9_code 47 = .ok (.iinc 3 1, 3) := by decide +kernel
theorem w1191 : Cond.fieldLinkNest "SeriesVault$Shelf" 62 "SeriesVault$Parcel" "newest" "J" "SeriesVault" ∈ aW := aw_of (tb_6 (List.mem_of_getElem? (i := 65) rfl)) rfl
set_option maxHeartbeats 4000000 in
set_option maxRecDepth 100000 in
theorem v_moveHorizon (l : Launch) (D : va_G) (dA : Nat → ClassId) (sz : Nat) (h : Nat) (ad : Nat → Nat) (x : VS) (PS : Nat → PT) (a : Int64) (hps : psOk dA x.nP x.npc x.pl PS) (hpn : x.npc ≤ 32) : Met l ⟨"SeriesVault$Shelf", "moveHorizon", "(J)V"⟩ [Cond.code ⟨"SeriesVault$Shelf", "moveHorizon", "(J)V"⟩ prog_9_method_9_code 5 none] { frames := 1, cells := 0, slots := 0, locals := 0 } (pC D dA [.ref (ad 3), .long a] (VW dA h ad x) sz) (va_Qv (fun (u9 : Unit) => True) (fun (u9 : Unit) t9 => bW D (va_A (VW dA h ad x) sz) (VW dA h ad (VS.s_nhor (VS.s_npc (VS.s_nP x (tdT (mhC PS a) x.nP x.npc)) (cnt x.npc (mhC PS a))) a)) t9) (va_A (VW dA h ad x) sz)) 0 0 (va_A (VW dA h ad x) sz) := by
  refine mkC (y := ⟨"SeriesVault$Shelf", "moveHorizon", "(J)V"⟩) (cc := prog_9_method_9_code) (maxL := 5) (av := [.ref (ad 3), .long a]) (ws := VW dA h ad x) (sz := sz) (Qc := fun A => va_Qv (fun (u9 : Unit) => True) (fun (u9 : Unit) t9 => bW D A (VW dA h ad (VS.s_nhor (VS.s_npc (VS.s_nP x (tdT (mhC PS a) x.nP x.npc)) (cnt x.npc (mhC PS a))) a)) t9) A) (by decide) (Nat.le_of_ble_eq_true rfl) ?_
  intro A p e s m below meth c ls hsz hB
  obtain ⟨hx, hb, hr, hml, hown, hin, hlk, hE, hK, hP, hD, hS, hA, hN, hl⟩ := hB
  have hown : s.vm.findClass "SeriesVault$Shelf" = some m.cls := hown
  have hl : lv_has ls 5 [(0, .ref (ad 3)), (1, .long a)] := hl
  obtain ⟨H, hH⟩ : ∃ z, z = s.heap := ⟨_, rfl⟩
  have hP : va_P D vwCl (VW dA h ad x) H := by rw [hH]; exact hP
  have hS : va_S A s.heap H [] := by rw [hH]; exact hS
  rw [← hH]
  refine lv_aload_n hx hb d_H_moveHorizon_0 rfl (lv_at hl 0 rfl) ?_
  refine lv_lload_n hx hb d_H_moveHorizon_1 rfl (lv_at hl 1 rfl) ?_
  refine pF (v := .long a) hx hb hown hE hK hP hD hS 17 rfl rfl layH tyH tokH nmH 7 (by decide) w568 rfl rfl rfl (Nat.le_of_ble_eq_true rfl) d_H_moveHorizon_2 (fun H locs hP hD hS => ?_)
  have hP : va_P D vwCl (VW dA h ad (VS.s_nhor x a)) H := hP
  have hD : va_D A (VW dA h ad (VS.s_nhor x a)) := hD
  refine lv_iconst (v := 0) hx hb d_H_moveHorizon_5 (by decide) ?_
  refine lv_istore_n hx hb d_H_moveHorizon_6 rfl hl (by decide) rfl (fun ls hl => ?_)
  have hl : lv_has ls 5 [(3, .int 0), (0, .ref (ad 3)), (1, .long a)] := hl
  refine lv_iconst (v := 0) hx hb d_H_moveHorizon_7 (by decide) ?_
  refine lv_istore hx hb d_H_moveHorizon_8 hl (by decide) rfl (fun ls hl => ?_)
  have hl : lv_has ls 5 [(4, .int 0), (3, .int 0), (0, .ref (ad 3)), (1, .long a)] := hl
  have L10 : ∀ (k9 : Nat) (k : Nat) (n : Nat) (i1 : k ≤ x.npc) (i2 : n = cnt k (mhC PS a)) (i3 : n ≤ k) (hk9 : x.npc - k = k9), ∀ (H : Heap) (locs : List Loc) (ls : Array Slot) (hP : va_P D vwCl (VW dA h ad (VS.s_nhor (VS.s_nP x (tdT (mhC PS a) x.nP k)) a)) H) (hD : va_D A (VW dA h ad (VS.s_nhor (VS.s_nP x (tdT (mhC PS a) x.nP k)) a))) (hS : va_S A s.heap H locs) (hl : lv_has ls 5 [(3, .int (nI n)), (4, .int (nI k)), (1, .long a), (0, .ref (ad 3))]), W p l e ({ frames := 1, cells := 0, slots := 0, locals := 0 } : Room) s m ([.ref (ad 3), .long a] : List Value).toArray below meth c H locs 0 0 (MQ below (va_Qv (fun (u9 : Unit) => True) (fun (u9 : Unit) t9 => bW D A (VW dA h ad (VS.s_nhor (VS.s_npc (VS.s_nP x (tdT (mhC PS a) x.nP x.npc)) (cnt x.npc (mhC PS a))) a)) t9) A) ([.ref (ad 3), .long a] : List Value).toArray s 0 0 A) (F0 m 10 ls []) := by
    intro k9
    induction k9 using Nat.strongRecOn with
    | ind k9 ih10 =>
      intro k n i1 i2 i3 hk9 H locs ls hP hD hS hl
      refine lv_iload hx hb d_H_moveHorizon_10 (lv_at hl 1 rfl) ?_
      refine lv_aload_n hx hb d_H_moveHorizon_12 rfl (lv_at hl 3 rfl) ?_
      refine gF (v := .int (nI x.npc)) hx hb hown hE hK hP 17 rfl rfl layH 1 (by decide) w566 rfl d_H_moveHorizon_13 ?_
      refine lv_icmp_ge hx hb d_H_moveHorizon_16 (tgt := 56) rfl (fun g1 => ?_) (fun g1 => ?_)
      · have g1 := (nI_leI (a := x.npc) (b := k) (by omega) (by omega)).mp g1
        refine lv_aload_n hx hb d_H_moveHorizon_56 rfl (lv_at hl 3 rfl) ?_
        refine lv_iload_n hx hb d_H_moveHorizon_57 rfl (lv_at hl 0 rfl) ?_
        refine pF (v := .int (nI n)) hx hb hown hE hK hP hD hS 17 rfl rfl layH tyH tokH nmH 1 (by decide) w566 rfl rfl rfl (Nat.le_of_ble_eq_true rfl) d_H_moveHorizon_58 (fun H locs hP hD hS => ?_)
        have hP : va_P D vwCl (VW dA h ad (VS.s_nhor (VS.s_npc (VS.s_nP x (tdT (mhC PS a) x.nP k)) n) a)) H := hP
        have hD : va_D A (VW dA h ad (VS.s_nhor (VS.s_npc (VS.s_nP x (tdT (mhC PS a) x.nP k)) n) a)) := hD
        have e9 : (VS.s_nhor (VS.s_npc (VS.s_nP x (tdT (mhC PS a) x.nP k)) n) a : VS) = VS.s_nhor (VS.s_npc (VS.s_nP x (tdT (mhC PS a) x.nP x.npc)) (cnt x.npc (mhC PS a))) a := by rw [show (tdT (mhC PS a) x.nP x.npc) = (tdT (mhC PS a) x.nP k) from by (rw [show x.npc = k by omega]), show (cnt x.npc (mhC PS a)) = n from by (rw [i2, show x.npc = k by omega])] <;> rfl
        exact rfV hx hb hr hlk hS () trivial (cvPv e9 hP) (cvDv e9 hD) (Nat.le_of_ble_eq_true rfl) (Nat.le_of_ble_eq_true rfl) d_H_moveHorizon_61
      · have g1 := mt (nI_leI (a := x.npc) (b := k) (by omega) (by omega)).mpr g1
        obtain ⟨pp, ke, hpp, hpk⟩ := hps k (by omega)
        have hpp0 := hpp
        obtain ⟨po, pt, pv, m1, m2, m3, m4⟩ := hpp
        have pk1 := hpk.1
        refine lv_aload_n hx hb d_H_moveHorizon_19 rfl (lv_at hl 3 rfl) ?_
        refine gF (v := .ref (ad 4)) hx hb hown hE hK hP 17 rfl rfl layH 0 (by decide) w199 rfl d_H_moveHorizon_20 ?_
        refine lv_iload hx hb d_H_moveHorizon_23 (lv_at hl 1 rfl) ?_
        refine nqld (f := (tdT (mhC PS a) x.nP k)) (n := 32) hx hb hK hP (18) 4 rfl rfl (k) (by omega) (by decide) ((tdT_at _ _ (Nat.le_refl k)).trans ke) d_H_moveHorizon_25 ?_
        obtain ⟨qp2, ep3⟩ := plv (dA := dA) (h := h) (ad := ad) (x := VS.s_nhor (VS.s_nP x (tdT (mhC PS a) x.nP k)) a) m1
        refine gFN (v := .long ((PS k).nw)) hx hb hown hE hK hP qp2 ep3 rfl layC 7 (by decide) w1191 rfl d_H_moveHorizon_26 ?_
        refine lv_lload_n hx hb d_H_moveHorizon_29 rfl (lv_at hl 2 rfl) ?_
        refine W.lcmp hx hb d_H_moveHorizon_30 ?_
        refine lv_if_lt hx hb d_H_moveHorizon_31 (tgt := 50) rfl (fun g4 => ?_) (fun g4 => ?_)
        · have g4 := (lg_cmp_lt _ _).mp g4
          refine lv_iinc (k := 1) (v := nI (k + 1)) hx hb d_H_moveHorizon_50 hl rfl (iincN (k) 1 1 (by decide)) (by decide) rfl (fun ls hl => ?_)
          have hl : lv_has ls 5 [(4, .int (nI (k + 1))), (3, .int (nI n)), (1, .long a), (0, .ref (ad 3))] := hl
          refine lv_goto hx hb d_H_moveHorizon_53 (tgt := 10) rfl ?_
          have e9 : (VS.s_nhor (VS.s_nP x (tdT (mhC PS a) x.nP k)) a : VS) = VS.s_nhor (VS.s_nP x (tdT (mhC PS a) x.nP (k + 1))) a := by rw [show (tdT (mhC PS a) x.nP (k + 1)) = (tdT (mhC PS a) x.nP k) from (tdT_f (c := mhC PS a) (show mhC PS a k = false by unfold mhC; rw [decide_eq_true g4]; rfl))] <;> rfl
          exact ih10 _ (by omega) (k + 1) n (by omega) (by rw [cnt_f (show mhC PS a k = false by unfold mhC; rw [decide_eq_true g4]; rfl), i2]) (by omega) rfl H _ ls (cvPv e9 hP) (cvDv e9 hD) hS (lv_sub hl [1, 0, 2, 3] rfl)
        · have g4 := mt (lg_cmp_lt _ _).mpr g4
          refine lv_aload_n hx hb d_H_moveHorizon_34 rfl (lv_at hl 3 rfl) ?_
          refine gF (v := .ref (ad 4)) hx hb hown hE hK hP 17 rfl rfl layH 0 (by decide) w199 rfl d_H_moveHorizon_35 ?_
          refine lv_iload_n hx hb d_H_moveHorizon_38 rfl (lv_at hl 0 rfl) ?_
          refine lv_aload_n hx hb d_H_moveHorizon_39 rfl (lv_at hl 3 rfl) ?_
          refine gF (v := .ref (ad 4)) hx hb hown hE hK hP 17 rfl rfl layH 0 (by decide) w199 rfl d_H_moveHorizon_40 ?_
          refine lv_iload hx hb d_H_moveHorizon_43 (lv_at hl 1 rfl) ?_
          refine nqld (f := (tdT (mhC PS a) x.nP k)) (n := 32) hx hb hK hP (18) 4 rfl rfl (k) (by omega) (by decide) ((tdT_at _ _ (Nat.le_refl k)).trans ke) d_H_moveHorizon_45 ?_
          obtain ⟨qp5, ep6⟩ := plv (dA := dA) (h := h) (ad := ad) (x := VS.s_nhor (VS.s_nP x (tdT (mhC PS a) x.nP k)) a) m1
          refine nqst (r := ("SeriesVault$Parcel", TC, 8)) (f := (tdT (mhC PS a) x.nP k)) (n := 32) hx hb hK hP hD hS (18) 4 qp5 12 rfl rfl ep6 rfl (n) (by omega) (by decide) d_H_moveHorizon_46 (fun H locs hP hD hS => ?_)
          have hP : va_P D vwCl (VW dA h ad (VS.s_nhor (VS.s_nP x (va_up (tdT (mhC PS a) x.nP k) n (some pp))) a)) H := hP
          have hD : va_D A (VW dA h ad (VS.s_nhor (VS.s_nP x (va_up (tdT (mhC PS a) x.nP k) n (some pp))) a)) := hD
          refine lv_iinc (k := 0) (v := nI (n + 1)) hx hb d_H_moveHorizon_47 hl rfl (iincN (n) 1 1 (by decide)) (by decide) rfl (fun ls hl => ?_)
          have hl : lv_has ls 5 [(3, .int (nI (n + 1))), (4, .int (nI k)), (1, .long a), (0, .ref (ad 3))] := hl
          refine lv_iinc (k := 1) (v := nI (k + 1)) hx hb d_H_moveHorizon_50 hl rfl (iincN (k) 1 1 (by decide)) (by decide) rfl (fun ls hl => ?_)
          have hl : lv_has ls 5 [(4, .int (nI (k + 1))), (3, .int (nI (n + 1))), (1, .long a), (0, .ref (ad 3))] := hl
          refine lv_goto hx hb d_H_moveHorizon_53 (tgt := 10) rfl ?_
          have e9 : (VS.s_nhor (VS.s_nP x (va_up (tdT (mhC PS a) x.nP k) n (some pp))) a : VS) = VS.s_nhor (VS.s_nP x (tdT (mhC PS a) x.nP (k + 1))) a := by rw [show (tdT (mhC PS a) x.nP (k + 1)) = (va_up (tdT (mhC PS a) x.nP k) n (some pp)) from (by rw [tdT_t (c := mhC PS a) (show mhC PS a k = true by unfold mhC; rw [decide_eq_false g4]; rfl) ke.symm, i2])] <;> rfl
          exact ih10 _ (by omega) (k + 1) (n + 1) (by omega) (by rw [cnt_t (show mhC PS a k = true by unfold mhC; rw [decide_eq_false g4]; rfl), i2]) (by omega) rfl H _ ls (cvPv e9 hP) (cvDv e9 hD) hS (lv_sub hl [1, 0, 2, 3] rfl)
  have e9 : (VS.s_nhor x a : VS) = VS.s_nhor (VS.s_nP x (tdT (mhC PS a) x.nP 0)) a := by rw [show (tdT (mhC PS a) x.nP 0) = x.nP from rfl] <;> rfl
  exact L10 _ 0 0 (Nat.zero_le _) rfl (Nat.le_refl _) rfl H _ ls (cvPv e9 hP) (cvDv e9 hD) hS (lv_sub hl [1, 0, 3, 2] rfl)
theorem d_H_countPointsOfScars_0 : decode prog_9_method_13_code 0 = .ok (.iconst 0, 1) := by decide +kernel
theorem d_H_countPointsOfScars_1 : decode prog_9_method_13_code 1 = .ok (.istore_n 2, 1) := by decide +kernel
theorem d_H_countPointsOfScars_2 : decode prog_9_method_13_code 2 = .ok (.iload_n 2, 1) := by decide +kernel
theorem d_H_countPointsOfScars_3 : decode prog_9_method_13_code 3 = .ok (.aload_n 1, 1) := by decide +kernel
theorem d_H_countPointsOfScars_4 : decode prog_9_method_13_code 4 = .ok (.getfield 84, 3) := by decide +kernel
theorem d_H_countPointsOfScars_7 : decode prog_9_method_13_code 7 = .ok (.if_icmp .ge 41, 3) := by decide +kernel
theorem d_H_countPointsOfScars_48 : decode prog_9_method_13_code 48 = .ok (.return_, 1) := by decide +kernel
theorem d_H_countPointsOfScars_10 : decode prog_9_method_13_code 10 = .ok (.aload_n 0, 1) := by decide +kernel
theorem d_H_countPointsOfScars_11 : decode prog_9_method_13_code 11 = .ok (.aload_n 1, 1) := by decide +kernel
theorem d_H_countPointsOfScars_12 : decode prog_9_method_13_code 12 = .ok (.getfield 87, 3) := by decide +kernel
theorem d_H_countPointsOfScars_15 : decode prog_9_method_13_code 15 = .ok (.iload_n 2, 1) := by decide +kernel
theorem d_H_countPointsOfScars_16 : decode prog_9_method_13_code 16 = .ok (.iaload, 1) := by decide +kernel
theorem d_H_countPointsOfScars_17 : decode prog_9_method_13_code 17 = .ok (.aload_n 1, 1) := by decide +kernel
theorem d_H_countPointsOfScars_18 : decode prog_9_method_13_code 18 = .ok (.getfield 90, 3) := by decide +kernel
theorem d_H_countPointsOfScars_21 : decode prog_9_method_13_code 21 = .ok (.iload_n 2, 1) := by decide +kernel
theorem d_H_countPointsOfScars_22 : decode prog_9_method_13_code 22 = .ok (.laload, 1) := by decide +kernel
theorem d_H_countPointsOfScars_23 : decode prog_9_method_13_code 23 = .ok (.invokevirtual 93, 3) := by decide +kernel
theorem d_H_countPointsOfScars_26 : decode prog_9_method_13_code 26 = .ok (.istore_n 3, 1) := by decide +kernel
theorem d_H_countPointsOfScars_27 : decode prog_9_method_13_code 27 = .ok (.iload_n 3, 1) := by decide +kernel
theorem d_H_countPointsOfScars_28 : decode prog_9_method_13_code 28 = .ok (.iconst (-1), 1) := by decide +kernel
theorem d_H_countPointsOfScars_29 : decode prog_9_method_13_code 29 = .ok (.if_icmp .eq 13, 3) := by decide +kernel
theorem d_H_countPointsOfScars_42 : decode prog_9_method_13_code 42 = .ok (.iinc 2 1, 3) := by decide +kernel
theorem d_H_countPointsOfScars_45 : decode prog_9_method_13_code 45 = .ok (.goto (-43), 3) := by decide +kernel
theorem d_H_countPointsOfScars_32 : decode prog_9_method_13_code 32 = .ok (.aload_n 0, 1) := by decide +kernel
theorem d_H_countPointsOfScars_33 : decode prog_9_method_13_code 33 = .ok (.getfield 28, 3) := by decide +kernel
theorem d_H_countPointsOfScars_36 : decode prog_9_method_13_code 36 = .ok (.iload_n 3, 1) := by decide +kernel
theorem d_H_countPointsOfScars_37 : decode prog_9_method_13_code 37 = .ok (.dup2, 1) := by decide +kernel
theorem d_H_countPointsOfScars_38 : decode prog_9_method_13_code 38 = .ok (.iaload, 1) := by decide +kernel
theorem d_H_countPointsOfScars_39 : decode prog_9_method_13_code 39 = .ok (.iconst 1, 1) := by decide +kernel
theorem d_H_countPointsOfScars_40 : decode prog_9_method_13_code 40 = .ok (.iadd, 1) := by decide +kernel
theorem d_H_countPointsOfScars_41 : decode prog_9_method_13_code 41 = .ok (.iastore, 1) := by decide +kernel
set_option maxHeartbeats 4000000 in
set_option maxRecDepth 100000 in
theorem v_countPointsOfScars (l : Launch) (D : va_G) (dA : Nat → ClassId) (sz : Nat) (h : Nat) (ad : Nat → Nat) (x : VS) (pp : Nat) (P : PT) (hpp : isPc dA x.pl pp P) (hpk : pcOk P) (h1 : x.nsc ≤ 64) (h7 : ∀ q : Nat, q < x.nsc → x.nsO q < 2 ^ 31) : Met l ⟨"SeriesVault$Shelf", "countPointsOfScars", "(LSeriesVault$Parcel;)V"⟩ [Cond.code ⟨"SeriesVault$Shelf", "countPointsOfScars", "(LSeriesVault$Parcel;)V"⟩ prog_9_method_13_code 4 none] { frames := 2, cells := 0, slots := 0, locals := 24 } (pC D dA [.ref (ad 3), .ref pp] (VW dA h ad x) sz) (va_Qv (fun (u9 : Unit) => True) (fun (u9 : Unit) t9 => bW D (va_A (VW dA h ad x) sz) (VW dA h ad (VS.s_nsP x (spK (x.scI P) x.nsP P.n))) t9) (va_A (VW dA h ad x) sz)) 0 0 (va_A (VW dA h ad x) sz) := by
  refine mkC (y := ⟨"SeriesVault$Shelf", "countPointsOfScars", "(LSeriesVault$Parcel;)V"⟩) (cc := prog_9_method_13_code) (maxL := 4) (av := [.ref (ad 3), .ref pp]) (ws := VW dA h ad x) (sz := sz) (Qc := fun A => va_Qv (fun (u9 : Unit) => True) (fun (u9 : Unit) t9 => bW D A (VW dA h ad (VS.s_nsP x (spK (x.scI P) x.nsP P.n))) t9) A) (by decide) (Nat.le_of_ble_eq_true rfl) ?_
  intro A p e s m below meth c ls hsz hB
  obtain ⟨hx, hb, hr, hml, hown, hin, hlk, hE, hK, hP, hD, hS, hA, hN, hl⟩ := hB
  have hown : s.vm.findClass "SeriesVault$Shelf" = some m.cls := hown
  have hl : lv_has ls 4 [(0, .ref (ad 3)), (1, .ref pp)] := hl
  obtain ⟨H, hH⟩ : ∃ z, z = s.heap := ⟨_, rfl⟩
  have hP : va_P D vwCl (VW dA h ad x) H := by rw [hH]; exact hP
  have hS : va_S A s.heap H [] := by rw [hH]; exact hS
  rw [← hH]
  have pk1 := hpk.1
  have pk2 := hpk.2
  have hpp0 := hpp
  obtain ⟨po, pt, pv, m1, m2, m3, m4⟩ := hpp
  refine lv_iconst (v := 0) hx hb d_H_countPointsOfScars_0 (by decide) ?_
  refine lv_istore_n hx hb d_H_countPointsOfScars_1 rfl hl (by decide) rfl (fun ls hl => ?_)
  have hl : lv_has ls 4 [(2, .int 0), (0, .ref (ad 3)), (1, .ref pp)] := hl
  have L2 : ∀ (k9 : Nat) (i : Nat) (i1 : i ≤ P.n) (hk9 : P.n - i = k9), ∀ (H : Heap) (locs : List Loc) (ls : Array Slot) (hP : va_P D vwCl (VW dA h ad (VS.s_nsP x (spK (x.scI P) x.nsP i))) H) (hD : va_D A (VW dA h ad (VS.s_nsP x (spK (x.scI P) x.nsP i)))) (hS : va_S A s.heap H locs) (hl : lv_has ls 4 [(2, .int (nI i)), (1, .ref pp), (0, .ref (ad 3))]), W p l e ({ frames := 2, cells := 0, slots := 0, locals := 24 } : Room) s m ([.ref (ad 3), .ref pp] : List Value).toArray below meth c H locs 0 0 (MQ below (va_Qv (fun (u9 : Unit) => True) (fun (u9 : Unit) t9 => bW D A (VW dA h ad (VS.s_nsP x (spK (x.scI P) x.nsP P.n))) t9) A) ([.ref (ad 3), .ref pp] : List Value).toArray s 0 0 A) (F0 m 2 ls []) := by
    intro k9
    induction k9 using Nat.strongRecOn with
    | ind k9 ih2 =>
      intro i i1 hk9 H locs ls hP hD hS hl
      refine lv_iload_n hx hb d_H_countPointsOfScars_2 rfl (lv_at hl 0 rfl) ?_
      refine lv_aload_n hx hb d_H_countPointsOfScars_3 rfl (lv_at hl 1 rfl) ?_
      obtain ⟨qp1, ep2⟩ := plv (dA := dA) (h := h) (ad := ad) (x := VS.s_nsP x (spK (x.scI P) x.nsP i)) m1
      refine gFN (v := .int (nI P.n)) hx hb hown hE hK hP qp1 ep2 rfl layC 3 (by decide) w1176 rfl d_H_countPointsOfScars_4 ?_
      refine lv_icmp_ge hx hb d_H_countPointsOfScars_7 (tgt := 48) rfl (fun g3 => ?_) (fun g3 => ?_)
      · have g3 := (nI_leI (a := P.n) (b := i) (by omega) (by omega)).mp g3
        have e9 : (VS.s_nsP x (spK (x.scI P) x.nsP i) : VS) = VS.s_nsP x (spK (x.scI P) x.nsP P.n) := by rw [show (spK (x.scI P) x.nsP P.n) = (spK (x.scI P) x.nsP i) from by (rw [show P.n = i by omega])] <;> rfl
        exact rfV hx hb hr hlk hS () trivial (cvPv e9 hP) (cvDv e9 hD) (Nat.le_of_ble_eq_true rfl) (Nat.le_of_ble_eq_true rfl) d_H_countPointsOfScars_48
      · have g3 := mt (nI_leI (a := P.n) (b := i) (by omega) (by omega)).mpr g3
        have pk3 := pk2 i (by omega)
        rcases hsc : x.sc1 (P.o i) (P.t i) with _ | q
        · have pk3 := pk2 i (by omega)
          refine lv_aload_n hx hb d_H_countPointsOfScars_10 rfl (lv_at hl 2 rfl) ?_
          refine lv_aload_n hx hb d_H_countPointsOfScars_11 rfl (lv_at hl 1 rfl) ?_
          obtain ⟨qp4, ep5⟩ := plv (dA := dA) (h := h) (ad := ad) (x := VS.s_nsP x (spK (x.scI P) x.nsP i)) m1
          refine gFN (v := .ref po) hx hb hown hE hK hP qp4 ep5 rfl layC 0 (by decide) w1171 rfl d_H_countPointsOfScars_12 ?_
          refine lv_iload_n hx hb d_H_countPointsOfScars_15 rfl (lv_at hl 0 rfl) ?_
          obtain ⟨qp6, ep7⟩ := plv (dA := dA) (h := h) (ad := ad) (x := VS.s_nsP x (spK (x.scI P) x.nsP i)) m2
          refine nild (f := (fun k => nI (P.o k))) (n := P.n) hx hb hK hP qp6 1 ep7 rfl (i) (by omega) (by omega) d_H_countPointsOfScars_16 ?_
          refine lv_aload_n hx hb d_H_countPointsOfScars_17 rfl (lv_at hl 1 rfl) ?_
          obtain ⟨qp8, ep9⟩ := plv (dA := dA) (h := h) (ad := ad) (x := VS.s_nsP x (spK (x.scI P) x.nsP i)) m1
          refine gFN (v := .ref pt) hx hb hown hE hK hP qp8 ep9 rfl layC 1 (by decide) w1170 rfl d_H_countPointsOfScars_18 ?_
          refine lv_iload_n hx hb d_H_countPointsOfScars_21 rfl (lv_at hl 0 rfl) ?_
          obtain ⟨qp10, ep11⟩ := plv (dA := dA) (h := h) (ad := ad) (x := VS.s_nsP x (spK (x.scI P) x.nsP i)) m3
          refine nlld (f := P.t) (n := P.n) hx hb hK hP qp10 2 ep11 rfl (i) (by omega) (by omega) d_H_countPointsOfScars_22 ?_
          refine jfI (rnV (As := [.int (nI (P.o i)), .long (P.t i)]) (rest := []) hx hb hml hown hE hK (hN _ _ hS) hP hD (v_scarOf l D dA H.size h ad (VS.s_nsP x (spK (x.scI P) x.nsP i)) (P.o i) (P.t i) (show x.nsc ≤ 64 from by omega) (show (P.o i) < 2 ^ 31 from by omega) h7) (q0 := 17) rfl rfl w1173 w1172 w1174 w1175 w583 rfl rfl ⟨⟨by decide, by decide⟩, rfl⟩ ⟨(Nat.le_of_ble_eq_true rfl), (Nat.le_of_ble_eq_true rfl)⟩ rfl hl.1 rfl (Nat.le_of_ble_eq_true rfl) d_H_countPointsOfScars_23 ⟨(Nat.le_of_ble_eq_true rfl), (Nat.le_of_ble_eq_true rfl)⟩) hP hD hS hA (fun r12 u13 H locs hp9 hP hD hS => ?_)
          have hP : va_P D vwCl (VW dA h ad (VS.s_nsP x (spK (x.scI P) x.nsP i))) H := hP
          have hD : va_D A (VW dA h ad (VS.s_nsP x (spK (x.scI P) x.nsP i))) := hD
          replace hp9 : opI (x.sc1 (P.o i) (P.t i)) = r12 := Eq.symm hp9
          subst hp9
          refine tpi (y := (-1)) (by rw [hsc]; rfl) ?_
          refine lv_istore_n hx hb d_H_countPointsOfScars_26 rfl hl (by decide) rfl (fun ls hl => ?_)
          have hl : lv_has ls 4 [(3, .int (-1)), (2, .int (nI i)), (1, .ref pp), (0, .ref (ad 3))] := hl
          refine lv_iload_n hx hb d_H_countPointsOfScars_27 rfl (lv_at hl 0 rfl) ?_
          refine lv_iconst (v := (-1)) hx hb d_H_countPointsOfScars_28 (by decide) ?_
          refine lv_icmp_eq hx hb d_H_countPointsOfScars_29 (tgt := 42) rfl (fun _ => ?_) (fun h9 => absurd (by decide) h9)
          refine lv_iinc (k := 1) (v := nI (i + 1)) hx hb d_H_countPointsOfScars_42 hl rfl (iincN (i) 1 1 (by decide)) (by decide) rfl (fun ls hl => ?_)
          have hl : lv_has ls 4 [(2, .int (nI (i + 1))), (3, .int (-1)), (1, .ref pp), (0, .ref (ad 3))] := hl
          refine lv_goto hx hb d_H_countPointsOfScars_45 (tgt := 2) rfl ?_
          have e9 : (VS.s_nsP x (spK (x.scI P) x.nsP i) : VS) = VS.s_nsP x (spK (x.scI P) x.nsP (i + 1)) := by rw [show (spK (x.scI P) x.nsP (i + 1)) = (spK (x.scI P) x.nsP i) from (spK_n (sc := x.scI P) hsc)] <;> rfl
          exact ih2 _ (by omega) (i + 1) (by omega) rfl H _ ls (cvPv e9 hP) (cvDv e9 hD) hS (lv_sub hl [0, 2, 3] rfl)
        · have pk3 := pk2 i (by omega)
          refine lv_aload_n hx hb d_H_countPointsOfScars_10 rfl (lv_at hl 2 rfl) ?_
          refine lv_aload_n hx hb d_H_countPointsOfScars_11 rfl (lv_at hl 1 rfl) ?_
          obtain ⟨qp14, ep15⟩ := plv (dA := dA) (h := h) (ad := ad) (x := VS.s_nsP x (spK (x.scI P) x.nsP i)) m1
          refine gFN (v := .ref po) hx hb hown hE hK hP qp14 ep15 rfl layC 0 (by decide) w1171 rfl d_H_countPointsOfScars_12 ?_
          refine lv_iload_n hx hb d_H_countPointsOfScars_15 rfl (lv_at hl 0 rfl) ?_
          obtain ⟨qp16, ep17⟩ := plv (dA := dA) (h := h) (ad := ad) (x := VS.s_nsP x (spK (x.scI P) x.nsP i)) m2
          refine nild (f := (fun k => nI (P.o k))) (n := P.n) hx hb hK hP qp16 1 ep17 rfl (i) (by omega) (by omega) d_H_countPointsOfScars_16 ?_
          refine lv_aload_n hx hb d_H_countPointsOfScars_17 rfl (lv_at hl 1 rfl) ?_
          obtain ⟨qp18, ep19⟩ := plv (dA := dA) (h := h) (ad := ad) (x := VS.s_nsP x (spK (x.scI P) x.nsP i)) m1
          refine gFN (v := .ref pt) hx hb hown hE hK hP qp18 ep19 rfl layC 1 (by decide) w1170 rfl d_H_countPointsOfScars_18 ?_
          refine lv_iload_n hx hb d_H_countPointsOfScars_21 rfl (lv_at hl 0 rfl) ?_
          obtain ⟨qp20, ep21⟩ := plv (dA := dA) (h := h) (ad := ad) (x := VS.s_nsP x (spK (x.scI P) x.nsP i)) m3
          refine nlld (f := P.t) (n := P.n) hx hb hK hP qp20 2 ep21 rfl (i) (by omega) (by omega) d_H_countPointsOfScars_22 ?_
          refine jfI (rnV (As := [.int (nI (P.o i)), .long (P.t i)]) (rest := []) hx hb hml hown hE hK (hN _ _ hS) hP hD (v_scarOf l D dA H.size h ad (VS.s_nsP x (spK (x.scI P) x.nsP i)) (P.o i) (P.t i) (show x.nsc ≤ 64 from by omega) (show (P.o i) < 2 ^ 31 from by omega) h7) (q0 := 17) rfl rfl w1173 w1172 w1174 w1175 w583 rfl rfl ⟨⟨by decide, by decide⟩, rfl⟩ ⟨(Nat.le_of_ble_eq_true rfl), (Nat.le_of_ble_eq_true rfl)⟩ rfl hl.1 rfl (Nat.le_of_ble_eq_true rfl) d_H_countPointsOfScars_23 ⟨(Nat.le_of_ble_eq_true rfl), (Nat.le_of_ble_eq_true rfl)⟩) hP hD hS hA (fun r22 u23 H locs hp9 hP hD hS => ?_)
          have hP : va_P D vwCl (VW dA h ad (VS.s_nsP x (spK (x.scI P) x.nsP i))) H := hP
          have hD : va_D A (VW dA h ad (VS.s_nsP x (spK (x.scI P) x.nsP i))) := hD
          replace hp9 : opI (x.sc1 (P.o i) (P.t i)) = r22 := Eq.symm hp9
          subst hp9
          refine tpi (y := nI q) (by rw [hsc]; rfl) ?_
          refine lv_istore_n hx hb d_H_countPointsOfScars_26 rfl hl (by decide) rfl (fun ls hl => ?_)
          have hl : lv_has ls 4 [(3, .int (nI q)), (2, .int (nI i)), (1, .ref pp), (0, .ref (ad 3))] := hl
          have q64 : q < 64 := by have := frst_lt hsc; omega
          refine lv_iload_n hx hb d_H_countPointsOfScars_27 rfl (lv_at hl 0 rfl) ?_
          refine lv_iconst (v := (-1)) hx hb d_H_countPointsOfScars_28 (by decide) ?_
          refine lv_icmp_eq hx hb d_H_countPointsOfScars_29 (tgt := 42) rfl (fun h9 => absurd h9 (nI_nm (by omega))) (fun _ => ?_)
          refine lv_aload_n hx hb d_H_countPointsOfScars_32 rfl (lv_at hl 3 rfl) ?_
          refine gF (v := .ref (ad 8)) hx hb hown hE hK hP 17 rfl rfl layH 5 (by decide) w203 rfl d_H_countPointsOfScars_33 ?_
          refine lv_iload_n hx hb d_H_countPointsOfScars_36 rfl (lv_at hl 0 rfl) ?_
          refine lv_dup2_11 hx hb d_H_countPointsOfScars_37 rfl rfl ?_
          refine nild (f := (fun z9 => nI ((spK (x.scI P) x.nsP i) z9))) (n := 64) hx hb hK hP 22 1 rfl rfl (q) (by omega) (by decide) d_H_countPointsOfScars_38 ?_
          refine lv_iconst (v := 1) hx hb d_H_countPointsOfScars_39 (by decide) ?_
          refine lv_iadd hx hb d_H_countPointsOfScars_40 (tpi (y := nI (((spK (x.scI P) x.nsP i) q) + 1)) (nI_add ((spK (x.scI P) x.nsP i) q) (1)) ?_)
          refine nistN (v := ((spK (x.scI P) x.nsP i) q) + 1) (n := 64) hx hb hK hP hD hS 22 1 rfl rfl (q) (by omega) (by decide) d_H_countPointsOfScars_41 (fun H locs hP hD hS => ?_)
          have hP : va_P D vwCl (VW dA h ad (VS.s_nsP x (va_up (spK (x.scI P) x.nsP i) q (((spK (x.scI P) x.nsP i) q) + 1)))) H := hP
          have hD : va_D A (VW dA h ad (VS.s_nsP x (va_up (spK (x.scI P) x.nsP i) q (((spK (x.scI P) x.nsP i) q) + 1)))) := hD
          refine lv_iinc (k := 1) (v := nI (i + 1)) hx hb d_H_countPointsOfScars_42 hl rfl (iincN (i) 1 1 (by decide)) (by decide) rfl (fun ls hl => ?_)
          have hl : lv_has ls 4 [(2, .int (nI (i + 1))), (3, .int (nI q)), (1, .ref pp), (0, .ref (ad 3))] := hl
          refine lv_goto hx hb d_H_countPointsOfScars_45 (tgt := 2) rfl ?_
          have e9 : (VS.s_nsP x (va_up (spK (x.scI P) x.nsP i) q (((spK (x.scI P) x.nsP i) q) + 1)) : VS) = VS.s_nsP x (spK (x.scI P) x.nsP (i + 1)) := by rw [show (spK (x.scI P) x.nsP (i + 1)) = (va_up (spK (x.scI P) x.nsP i) q (((spK (x.scI P) x.nsP i) q) + 1)) from (spK_s (sc := x.scI P) hsc)] <;> rfl
          exact ih2 _ (by omega) (i + 1) (by omega) rfl H _ ls (cvPv e9 hP) (cvDv e9 hD) hS (lv_sub hl [0, 2, 3] rfl)
  have e9 : (x : VS) = VS.s_nsP x (spK (x.scI P) x.nsP 0) := by rw [show (spK (x.scI P) x.nsP 0) = x.nsP from rfl] <;> rfl
  exact L2 _ 0 (Nat.zero_le _) rfl H _ ls (cvPv e9 hP) (cvDv e9 hD) hS (lv_sub hl [0, 2, 1] rfl)
set_option maxHeartbeats 4000000 in
set_option maxRecDepth 100000 in
theorem v_fillNsP (l : Launch) (D : va_G) (dA : Nat → ClassId) (sz : Nat) (h : Nat) (ad : Nat → Nat) (x : VS) : Met l ⟨"java/util/Arrays", "fill", "([II)V"⟩ [Cond.code ⟨"java/util/Arrays", "fill", "([II)V"⟩ prog_38_method_103_code 4 none] { frames := 1, cells := 0, slots := 0, locals := 0 } (pC D dA [.ref (ad 8), .int 0] (VW dA h ad x) sz) (va_Qv (fun (u9 : Unit) => True) (fun (u9 : Unit) t9 => bW D (va_A (VW dA h ad x) sz) (VW dA h ad (VS.s_nsP x (filG x.nsP 0 0 64))) t9) (va_A (VW dA h ad x) sz)) 0 0 (va_A (VW dA h ad x) sz) := by
  refine mkC (y := ⟨"java/util/Arrays", "fill", "([II)V"⟩) (cc := prog_38_method_103_code) (maxL := 4) (av := [.ref (ad 8), .int 0]) (ws := VW dA h ad x) (sz := sz) (Qc := fun A => va_Qv (fun (u9 : Unit) => True) (fun (u9 : Unit) t9 => bW D A (VW dA h ad (VS.s_nsP x (filG x.nsP 0 0 64))) t9) A) (by decide) (Nat.le_of_ble_eq_true rfl) ?_
  intro A p e s m below meth c ls hsz hB
  obtain ⟨hx, hb, hr, hml, hown, hin, hlk, hE, hK, hP, hD, hS, hA, hN, hl⟩ := hB
  have hown : s.vm.findClass "java/util/Arrays" = some m.cls := hown
  have hl : lv_has ls 4 [(0, .ref (ad 8)), (1, .int 0)] := hl
  obtain ⟨H, hH⟩ : ∃ z, z = s.heap := ⟨_, rfl⟩
  have hP : va_P D vwCl (VW dA h ad x) H := by rw [hH]; exact hP
  have hS : va_S A s.heap H [] := by rw [hH]; exact hS
  rw [← hH]
  refine lv_iconst (v := 0) hx hb d_Arrays_fill_f26_0 (by decide) ?_
  refine lv_istore_n hx hb d_Arrays_fill_f26_1 rfl hl (by decide) rfl (fun ls hl => ?_)
  have hl : lv_has ls 4 [(2, .int 0), (0, .ref (ad 8)), (1, .int 0)] := hl
  refine lv_aload_n hx hb d_Arrays_fill_f26_2 rfl (lv_at hl 1 rfl) ?_
  refine va_alen (v := 64) hx hb hK hP (22) 1 rfl rfl rfl d_Arrays_fill_f26_3 ?_
  refine lv_istore_n hx hb d_Arrays_fill_f26_4 rfl hl (by decide) rfl (fun ls hl => ?_)
  have hl : lv_has ls 4 [(3, .int 64), (2, .int 0), (0, .ref (ad 8)), (1, .int 0)] := hl
  have L5 : ∀ (k9 : Nat) (k : Nat) (i1 : k ≤ 64) (hk9 : 64 - k = k9), ∀ (H : Heap) (locs : List Loc) (ls : Array Slot) (hP : va_P D vwCl (VW dA h ad (VS.s_nsP x (filG x.nsP 0 0 k))) H) (hD : va_D A (VW dA h ad (VS.s_nsP x (filG x.nsP 0 0 k)))) (hS : va_S A s.heap H locs) (hl : lv_has ls 4 [(2, .int (nI k)), (3, .int 64), (0, .ref (ad 8)), (1, .int 0)]), W p l e ({ frames := 1, cells := 0, slots := 0, locals := 0 } : Room) s m ([.ref (ad 8), .int 0] : List Value).toArray below meth c H locs 0 0 (MQ below (va_Qv (fun (u9 : Unit) => True) (fun (u9 : Unit) t9 => bW D A (VW dA h ad (VS.s_nsP x (filG x.nsP 0 0 64))) t9) A) ([.ref (ad 8), .int 0] : List Value).toArray s 0 0 A) (F0 m 5 ls []) := by
    intro k9
    induction k9 using Nat.strongRecOn with
    | ind k9 ih5 =>
      intro k i1 hk9 H locs ls hP hD hS hl
      refine lv_iload_n hx hb d_Arrays_fill_f26_5 rfl (lv_at hl 0 rfl) ?_
      refine lv_iload_n hx hb d_Arrays_fill_f26_6 rfl (lv_at hl 1 rfl) ?_
      refine lv_icmp_ge hx hb d_Arrays_fill_f26_7 (tgt := 20) rfl (fun g1 => ?_) (fun g1 => ?_)
      · have g1 := (nI_leI (a := 64) (b := k) (by omega) (by omega)).mp g1
        have e9 : (VS.s_nsP x (filG x.nsP 0 0 k) : VS) = VS.s_nsP x (filG x.nsP 0 0 64) := by rw [show (filG x.nsP 0 0 64) = (filG x.nsP 0 0 k) from by (rw [show k = 64 by omega])] <;> rfl
        exact rfV hx hb hr hlk hS () trivial (cvPv e9 hP) (cvDv e9 hD) (Nat.le_of_ble_eq_true rfl) (Nat.le_of_ble_eq_true rfl) d_Arrays_fill_f26_20
      · have g1 := mt (nI_leI (a := 64) (b := k) (by omega) (by omega)).mpr g1
        refine lv_aload_n hx hb d_Arrays_fill_f26_10 rfl (lv_at hl 2 rfl) ?_
        refine lv_iload_n hx hb d_Arrays_fill_f26_11 rfl (lv_at hl 0 rfl) ?_
        refine lv_iload_n hx hb d_Arrays_fill_f26_12 rfl (lv_at hl 3 rfl) ?_
        refine nistN (v := 0) (n := 64) hx hb hK hP hD hS 22 1 rfl rfl (k) (by omega) (by decide) d_Arrays_fill_f26_13 (fun H locs hP hD hS => ?_)
        have hP : va_P D vwCl (VW dA h ad (VS.s_nsP x (va_up (filG x.nsP 0 0 k) k 0))) H := hP
        have hD : va_D A (VW dA h ad (VS.s_nsP x (va_up (filG x.nsP 0 0 k) k 0))) := hD
        refine lv_iinc (k := 0) (v := nI (k + 1)) hx hb d_Arrays_fill_f26_14 hl rfl (iincN (k) 1 1 (by decide)) (by decide) rfl (fun ls hl => ?_)
        have hl : lv_has ls 4 [(2, .int (nI (k + 1))), (3, .int 64), (0, .ref (ad 8)), (1, .int 0)] := hl
        refine lv_goto hx hb d_Arrays_fill_f26_17 (tgt := 5) rfl ?_
        have e9 : (VS.s_nsP x (va_up (filG x.nsP 0 0 k) k 0) : VS) = VS.s_nsP x (filG x.nsP 0 0 (k + 1)) := by rw [show (filG x.nsP 0 0 (k + 1)) = (va_up (filG x.nsP 0 0 k) k 0) from (show va_up _ (0 + k) 0 = _ by rw [Nat.zero_add])] <;> rfl
        exact ih5 _ (by omega) (k + 1) (by omega) rfl H _ ls (cvPv e9 hP) (cvDv e9 hD) hS (lv_sub hl [0, 1, 2, 3] rfl)
  have e9 : (x : VS) = VS.s_nsP x (filG x.nsP 0 0 0) := by rw [show (filG x.nsP 0 0 0) = x.nsP from rfl] <;> rfl
  exact L5 _ 0 (by omega) rfl H _ ls (cvPv e9 hP) (cvDv e9 hD) hS (lv_sub hl [1, 0, 2, 3] rfl)
theorem d_H_endScars_46 : decode prog_9_method_12_code 46 = .ok (.aload_n 0, 1) := by decide +kernel
theorem d_H_endScars_47 : decode prog_9_method_12_code 47 = .ok (.getfield 28, 3) := by decide +kernel
theorem d_H_endScars_50 : decode prog_9_method_12_code 50 = .ok (.iload_n 2, 1) := by decide +kernel
theorem d_H_endScars_51 : decode prog_9_method_12_code 51 = .ok (.iaload, 1) := by decide +kernel
theorem d_H_endScars_52 : decode prog_9_method_12_code 52 = .ok (.ifCond .le 42, 3) := by decide +kernel
theorem d_H_endScars_94 : decode prog_9_method_12_code 94 = .ok (.iinc 2 1, 3) := by decide +kernel
theorem d_H_endScars_97 : decode prog_9_method_12_code 97 = .ok (.goto (-59), 3) := by decide +kernel
theorem d_H_endScars_55 : decode prog_9_method_12_code 55 = .ok (.aload_n 0, 1) := by decide +kernel
theorem d_H_endScars_56 : decode prog_9_method_12_code 56 = .ok (.getfield 17, 3) := by decide +kernel
theorem d_H_endScars_59 : decode prog_9_method_12_code 59 = .ok (.iload_n 1, 1) := by decide +kernel
theorem d_H_endScars_60 : decode prog_9_method_12_code 60 = .ok (.aload_n 0, 1) := by decide +kernel
theorem d_H_endScars_61 : decode prog_9_method_12_code 61 = .ok (.getfield 17, 3) := by decide +kernel
theorem d_H_endScars_64 : decode prog_9_method_12_code 64 = .ok (.iload_n 2, 1) := by decide +kernel
theorem d_H_endScars_65 : decode prog_9_method_12_code 65 = .ok (.iaload, 1) := by decide +kernel
theorem d_H_endScars_66 : decode prog_9_method_12_code 66 = .ok (.iastore, 1) := by decide +kernel
theorem d_H_endScars_67 : decode prog_9_method_12_code 67 = .ok (.aload_n 0, 1) := by decide +kernel
theorem d_H_endScars_68 : decode prog_9_method_12_code 68 = .ok (.getfield 21, 3) := by decide +kernel
theorem d_H_endScars_71 : decode prog_9_method_12_code 71 = .ok (.iload_n 1, 1) := by decide +kernel
theorem d_H_endScars_72 : decode prog_9_method_12_code 72 = .ok (.aload_n 0, 1) := by decide +kernel
theorem d_H_endScars_73 : decode prog_9_method_12_code 73 = .ok (.getfield 21, 3) := by decide +kernel
theorem d_H_endScars_76 : decode prog_9_method_12_code 76 = .ok (.iload_n 2, 1) := by decide +kernel
theorem d_H_endScars_77 : decode prog_9_method_12_code 77 = .ok (.laload, 1) := by decide +kernel
theorem d_H_endScars_78 : decode prog_9_method_12_code 78 = .ok (.lastore, 1) := by decide +kernel
theorem d_H_endScars_79 : decode prog_9_method_12_code 79 = .ok (.aload_n 0, 1) := by decide +kernel
theorem d_H_endScars_80 : decode prog_9_method_12_code 80 = .ok (.getfield 25, 3) := by decide +kernel
theorem d_H_endScars_83 : decode prog_9_method_12_code 83 = .ok (.iload_n 1, 1) := by decide +kernel
theorem d_H_endScars_84 : decode prog_9_method_12_code 84 = .ok (.aload_n 0, 1) := by decide +kernel
theorem d_H_endScars_85 : decode prog_9_method_12_code 85 = .ok (.getfield 25, 3) := by decide +kernel
theorem d_H_endScars_88 : decode prog_9_method_12_code 88 = .ok (.iload_n 2, 1) := by decide +kernel
theorem d_H_endScars_89 : decode prog_9_method_12_code 89 = .ok (.laload, 1) := by decide +kernel
theorem d_H_endScars_90 : decode prog_9_method_12_code 90 = .ok (.lastore, 1) := by decide +kernel
theorem d_H_endScars_91 : decode prog_9_method_12_code 91 = .ok (.iinc 1 1, 3) := by decide +kernel
theorem d_H_endScars_18 : decode prog_9_method_12_code 18 = .ok (.aload_n 0, 1) := by decide +kernel
theorem d_H_endScars_19 : decode prog_9_method_12_code 19 = .ok (.aload_n 0, 1) := by decide +kernel
theorem d_H_endScars_20 : decode prog_9_method_12_code 20 = .ok (.getfield 11, 3) := by decide +kernel
theorem d_H_endScars_23 : decode prog_9_method_12_code 23 = .ok (.iload_n 1, 1) := by decide +kernel
theorem d_H_endScars_24 : decode prog_9_method_12_code 24 = .ok (.aaload, 1) := by decide +kernel
theorem d_H_endScars_25 : decode prog_9_method_12_code 25 = .ok (.invokevirtual 80, 3) := by decide +kernel
theorem d_H_endScars_28 : decode prog_9_method_12_code 28 = .ok (.iinc 1 1, 3) := by decide +kernel
theorem d_H_endScars_31 : decode prog_9_method_12_code 31 = .ok (.goto (-21), 3) := by decide +kernel
theorem w1192 : Cond.methodLink "SeriesVault$Shelf" 80 ⟨"SeriesVault$Shelf", "countPointsOfScars", "(LSeriesVault$Parcel;)V"⟩ ∈ aW := aw_of (tb_6 (List.mem_of_getElem? (i := 143) rfl)) rfl
theorem w1193 : Cond.code ⟨"SeriesVault$Shelf", "countPointsOfScars", "(LSeriesVault$Parcel;)V"⟩ prog_9_method_13_code 4 none ∈ aW := aw_of (tb_6 (List.mem_of_getElem? (i := 146) rfl)) rfl
theorem w1194 : Cond.instanceMethod ⟨"SeriesVault$Shelf", "countPointsOfScars", "(LSeriesVault$Parcel;)V"⟩ ∈ aW := aw_of (tb_6 (List.mem_of_getElem? (i := 145) rfl)) rfl
theorem w1195 : Cond.selects "SeriesVault$Shelf" ⟨"SeriesVault$Shelf", "countPointsOfScars", "(LSeriesVault$Parcel;)V"⟩ ⟨"SeriesVault$Shelf", "countPointsOfScars", "(LSeriesVault$Parcel;)V"⟩ ∈ aW := aw_pr (List.mem_map.mpr ⟨_, pv_3 (List.mem_of_getElem? (i := 0) rfl), rfl⟩) rfl
set_option maxHeartbeats 4000000 in
set_option maxRecDepth 100000 in
theorem v_endScars (l : Launch) (D : va_G) (dA : Nat → ClassId) (sz : Nat) (h : Nat) (ad : Nat → Nat) (x : VS) (PS : Nat → PT) (hps : psOk dA x.nP x.npc x.pl PS) (hpn : x.npc ≤ 32) (h1 : x.nsc ≤ 64) (h7 : ∀ q : Nat, q < x.nsc → x.nsO q < 2 ^ 31) : Met l ⟨"SeriesVault$Shelf", "endScars", "()V"⟩ [Cond.code ⟨"SeriesVault$Shelf", "endScars", "()V"⟩ prog_9_method_12_code 3 none] { frames := 3, cells := 0, slots := 0, locals := 47 } (pC D dA [.ref (ad 3)] (VW dA h ad x) sz) (va_Qv (fun (u9 : Unit) => True) (fun (u9 : Unit) t9 => bW D (va_A (VW dA h ad x) sz) (VW dA h ad (VS.s_nsc (VS.s_nsP (VS.s_nsT (VS.s_nsF (VS.s_nsO x (tdT (x.esC PS) x.nsO x.nsc)) (tdT (x.esC PS) x.nsF x.nsc)) (tdT (x.esC PS) x.nsT x.nsc)) (x.esG PS)) (cnt x.nsc (x.esC PS)))) t9) (va_A (VW dA h ad x) sz)) 0 0 (va_A (VW dA h ad x) sz) := by
  refine mkC (y := ⟨"SeriesVault$Shelf", "endScars", "()V"⟩) (cc := prog_9_method_12_code) (maxL := 3) (av := [.ref (ad 3)]) (ws := VW dA h ad x) (sz := sz) (Qc := fun A => va_Qv (fun (u9 : Unit) => True) (fun (u9 : Unit) t9 => bW D A (VW dA h ad (VS.s_nsc (VS.s_nsP (VS.s_nsT (VS.s_nsF (VS.s_nsO x (tdT (x.esC PS) x.nsO x.nsc)) (tdT (x.esC PS) x.nsF x.nsc)) (tdT (x.esC PS) x.nsT x.nsc)) (x.esG PS)) (cnt x.nsc (x.esC PS)))) t9) A) (by decide) (Nat.le_of_ble_eq_true rfl) ?_
  intro A p e s m below meth c ls hsz hB
  obtain ⟨hx, hb, hr, hml, hown, hin, hlk, hE, hK, hP, hD, hS, hA, hN, hl⟩ := hB
  have hown : s.vm.findClass "SeriesVault$Shelf" = some m.cls := hown
  have hl : lv_has ls 3 [(0, .ref (ad 3))] := hl
  obtain ⟨H, hH⟩ : ∃ z, z = s.heap := ⟨_, rfl⟩
  have hP : va_P D vwCl (VW dA h ad x) H := by rw [hH]; exact hP
  have hS : va_S A s.heap H [] := by rw [hH]; exact hS
  rw [← hH]
  refine lv_aload_n hx hb d_H_endScars_0 rfl (lv_at hl 0 rfl) ?_
  refine gF (v := .ref (ad 8)) hx hb hown hE hK hP 17 rfl rfl layH 5 (by decide) w203 rfl d_H_endScars_1 ?_
  refine lv_iconst (v := 0) hx hb d_H_endScars_4 (by decide) ?_
  refine jfV (rnS (As := [.ref (ad 8), .int 0]) (rest := []) hx hb hml hown hE hK (hN _ _ hS) hP hD (v_fillNsP l D dA H.size h ad x) w713 w711 w714 w712 rfl rfl ⟨⟨by decide, by decide⟩, rfl⟩ ⟨(Nat.le_of_ble_eq_true rfl), (Nat.le_of_ble_eq_true rfl)⟩ rfl hl.1 rfl (Nat.le_of_ble_eq_true rfl) d_H_endScars_5 ⟨(Nat.le_of_ble_eq_true rfl), (Nat.le_of_ble_eq_true rfl)⟩) hP hD hS hA (fun u2 H locs hp9 hP hD hS => ?_)
  have hP : va_P D vwCl (VW dA h ad (VS.s_nsP x (filG x.nsP 0 0 64))) H := hP
  have hD : va_D A (VW dA h ad (VS.s_nsP x (filG x.nsP 0 0 64))) := hD
  refine lv_iconst (v := 0) hx hb d_H_endScars_8 (by decide) ?_
  refine lv_istore_n hx hb d_H_endScars_9 rfl hl (by decide) rfl (fun ls hl => ?_)
  have hl : lv_has ls 3 [(1, .int 0), (0, .ref (ad 3))] := hl
  have L10 : ∀ (k9 : Nat) (k : Nat) (i1 : k ≤ x.npc) (hk9 : x.npc - k = k9), ∀ (H : Heap) (locs : List Loc) (ls : Array Slot) (hP : va_P D vwCl (VW dA h ad (VS.s_nsP x (x.scP PS (filG x.nsP 0 0 64) k))) H) (hD : va_D A (VW dA h ad (VS.s_nsP x (x.scP PS (filG x.nsP 0 0 64) k)))) (hS : va_S A s.heap H locs) (hl : lv_has ls 3 [(1, .int (nI k)), (0, .ref (ad 3))]), W p l e ({ frames := 3, cells := 0, slots := 0, locals := 47 } : Room) s m ([.ref (ad 3)] : List Value).toArray below meth c H locs 0 0 (MQ below (va_Qv (fun (u9 : Unit) => True) (fun (u9 : Unit) t9 => bW D A (VW dA h ad (VS.s_nsc (VS.s_nsP (VS.s_nsT (VS.s_nsF (VS.s_nsO x (tdT (x.esC PS) x.nsO x.nsc)) (tdT (x.esC PS) x.nsF x.nsc)) (tdT (x.esC PS) x.nsT x.nsc)) (x.esG PS)) (cnt x.nsc (x.esC PS)))) t9) A) ([.ref (ad 3)] : List Value).toArray s 0 0 A) (F0 m 10 ls []) := by
    intro k9
    induction k9 using Nat.strongRecOn with
    | ind k9 ih10 =>
      intro k i1 hk9 H locs ls hP hD hS hl
      refine lv_iload_n hx hb d_H_endScars_10 rfl (lv_at hl 0 rfl) ?_
      refine lv_aload_n hx hb d_H_endScars_11 rfl (lv_at hl 1 rfl) ?_
      refine gF (v := .int (nI x.npc)) hx hb hown hE hK hP 17 rfl rfl layH 1 (by decide) w566 rfl d_H_endScars_12 ?_
      refine lv_icmp_ge hx hb d_H_endScars_15 (tgt := 34) rfl (fun g3 => ?_) (fun g3 => ?_)
      · have g3 := (nI_leI (a := x.npc) (b := k) (by omega) (by omega)).mp g3
        refine lv_iconst (v := 0) hx hb d_H_endScars_34 (by decide) ?_
        refine lv_istore_n hx hb d_H_endScars_35 rfl hl (by decide) rfl (fun ls hl => ?_)
        have hl : lv_has ls 3 [(1, .int 0), (0, .ref (ad 3))] := hl
        refine lv_iconst (v := 0) hx hb d_H_endScars_36 (by decide) ?_
        refine lv_istore_n hx hb d_H_endScars_37 rfl hl (by decide) rfl (fun ls hl => ?_)
        have hl : lv_has ls 3 [(2, .int 0), (1, .int 0), (0, .ref (ad 3))] := hl
        have L38 : ∀ (k9 : Nat) (i : Nat) (n : Nat) (i1 : i ≤ x.nsc) (i2 : n = cnt i (x.esC PS)) (i3 : n ≤ i) (hk9 : x.nsc - i = k9), ∀ (H : Heap) (locs : List Loc) (ls : Array Slot) (hP : va_P D vwCl (VW dA h ad (VS.s_nsP (VS.s_nsT (VS.s_nsF (VS.s_nsO x (tdT (x.esC PS) x.nsO i)) (tdT (x.esC PS) x.nsF i)) (tdT (x.esC PS) x.nsT i)) (x.esG PS))) H) (hD : va_D A (VW dA h ad (VS.s_nsP (VS.s_nsT (VS.s_nsF (VS.s_nsO x (tdT (x.esC PS) x.nsO i)) (tdT (x.esC PS) x.nsF i)) (tdT (x.esC PS) x.nsT i)) (x.esG PS)))) (hS : va_S A s.heap H locs) (hl : lv_has ls 3 [(1, .int (nI n)), (2, .int (nI i)), (0, .ref (ad 3))]), W p l e ({ frames := 3, cells := 0, slots := 0, locals := 47 } : Room) s m ([.ref (ad 3)] : List Value).toArray below meth c H locs 0 0 (MQ below (va_Qv (fun (u9 : Unit) => True) (fun (u9 : Unit) t9 => bW D A (VW dA h ad (VS.s_nsc (VS.s_nsP (VS.s_nsT (VS.s_nsF (VS.s_nsO x (tdT (x.esC PS) x.nsO x.nsc)) (tdT (x.esC PS) x.nsF x.nsc)) (tdT (x.esC PS) x.nsT x.nsc)) (x.esG PS)) (cnt x.nsc (x.esC PS)))) t9) A) ([.ref (ad 3)] : List Value).toArray s 0 0 A) (F0 m 38 ls []) := by
          intro k9
          induction k9 using Nat.strongRecOn with
          | ind k9 ih38 =>
            intro i n i1 i2 i3 hk9 H locs ls hP hD hS hl
            refine lv_iload_n hx hb d_H_endScars_38 rfl (lv_at hl 1 rfl) ?_
            refine lv_aload_n hx hb d_H_endScars_39 rfl (lv_at hl 2 rfl) ?_
            refine gF (v := .int (nI x.nsc)) hx hb hown hE hK hP 17 rfl rfl layH 6 (by decide) w567 rfl d_H_endScars_40 ?_
            refine lv_icmp_ge hx hb d_H_endScars_43 (tgt := 100) rfl (fun g4 => ?_) (fun g4 => ?_)
            · have g4 := (nI_leI (a := x.nsc) (b := i) (by omega) (by omega)).mp g4
              refine lv_aload_n hx hb d_H_endScars_100 rfl (lv_at hl 2 rfl) ?_
              refine lv_iload_n hx hb d_H_endScars_101 rfl (lv_at hl 0 rfl) ?_
              refine pF (v := .int (nI n)) hx hb hown hE hK hP hD hS 17 rfl rfl layH tyH tokH nmH 6 (by decide) w567 rfl rfl rfl (Nat.le_of_ble_eq_true rfl) d_H_endScars_102 (fun H locs hP hD hS => ?_)
              have hP : va_P D vwCl (VW dA h ad (VS.s_nsc (VS.s_nsP (VS.s_nsT (VS.s_nsF (VS.s_nsO x (tdT (x.esC PS) x.nsO i)) (tdT (x.esC PS) x.nsF i)) (tdT (x.esC PS) x.nsT i)) (x.esG PS)) n)) H := hP
              have hD : va_D A (VW dA h ad (VS.s_nsc (VS.s_nsP (VS.s_nsT (VS.s_nsF (VS.s_nsO x (tdT (x.esC PS) x.nsO i)) (tdT (x.esC PS) x.nsF i)) (tdT (x.esC PS) x.nsT i)) (x.esG PS)) n)) := hD
              have e9 : (VS.s_nsc (VS.s_nsP (VS.s_nsT (VS.s_nsF (VS.s_nsO x (tdT (x.esC PS) x.nsO i)) (tdT (x.esC PS) x.nsF i)) (tdT (x.esC PS) x.nsT i)) (x.esG PS)) n : VS) = VS.s_nsc (VS.s_nsP (VS.s_nsT (VS.s_nsF (VS.s_nsO x (tdT (x.esC PS) x.nsO x.nsc)) (tdT (x.esC PS) x.nsF x.nsc)) (tdT (x.esC PS) x.nsT x.nsc)) (x.esG PS)) (cnt x.nsc (x.esC PS)) := by rw [show (tdT (x.esC PS) x.nsF x.nsc) = (tdT (x.esC PS) x.nsF i) from by (rw [show x.nsc = i by omega]), show (tdT (x.esC PS) x.nsO x.nsc) = (tdT (x.esC PS) x.nsO i) from by (rw [show x.nsc = i by omega]), show (tdT (x.esC PS) x.nsT x.nsc) = (tdT (x.esC PS) x.nsT i) from by (rw [show x.nsc = i by omega]), show (cnt x.nsc (x.esC PS)) = n from by (rw [i2, show x.nsc = i by omega])] <;> rfl
              exact rfV hx hb hr hlk hS () trivial (cvPv e9 hP) (cvDv e9 hD) (Nat.le_of_ble_eq_true rfl) (Nat.le_of_ble_eq_true rfl) d_H_endScars_105
            · have g4 := mt (nI_leI (a := x.nsc) (b := i) (by omega) (by omega)).mpr g4
              have b5 := esG_lt hps hpn (q := i) (by omega)
              refine lv_aload_n hx hb d_H_endScars_46 rfl (lv_at hl 2 rfl) ?_
              refine gF (v := .ref (ad 8)) hx hb hown hE hK hP 17 rfl rfl layH 5 (by decide) w203 rfl d_H_endScars_47 ?_
              refine lv_iload_n hx hb d_H_endScars_50 rfl (lv_at hl 1 rfl) ?_
              refine nild (f := (fun z9 => nI ((x.esG PS) z9))) (n := 64) hx hb hK hP 22 1 rfl rfl (i) (by omega) (by decide) d_H_endScars_51 ?_
              refine lv_if_le hx hb d_H_endScars_52 (tgt := 94) rfl (fun g5 => ?_) (fun g5 => ?_)
              · have g5 := (nI_leI (a := (x.esG PS) i) (b := 0) (by omega) (by decide)).mp g5
                refine lv_iinc (k := 1) (v := nI (i + 1)) hx hb d_H_endScars_94 hl rfl (iincN (i) 1 1 (by decide)) (by decide) rfl (fun ls hl => ?_)
                have hl : lv_has ls 3 [(2, .int (nI (i + 1))), (1, .int (nI n)), (0, .ref (ad 3))] := hl
                refine lv_goto hx hb d_H_endScars_97 (tgt := 38) rfl ?_
                have e9 : (VS.s_nsP (VS.s_nsT (VS.s_nsF (VS.s_nsO x (tdT (x.esC PS) x.nsO i)) (tdT (x.esC PS) x.nsF i)) (tdT (x.esC PS) x.nsT i)) (x.esG PS) : VS) = VS.s_nsP (VS.s_nsT (VS.s_nsF (VS.s_nsO x (tdT (x.esC PS) x.nsO (i + 1))) (tdT (x.esC PS) x.nsF (i + 1))) (tdT (x.esC PS) x.nsT (i + 1))) (x.esG PS) := by rw [show (tdT (x.esC PS) x.nsF (i + 1)) = (tdT (x.esC PS) x.nsF i) from (tdT_f (c := x.esC PS) (show x.esC PS i = false from by unfold VS.esC; exact decide_eq_false (by omega))), show (tdT (x.esC PS) x.nsO (i + 1)) = (tdT (x.esC PS) x.nsO i) from (tdT_f (c := x.esC PS) (show x.esC PS i = false from by unfold VS.esC; exact decide_eq_false (by omega))), show (tdT (x.esC PS) x.nsT (i + 1)) = (tdT (x.esC PS) x.nsT i) from (tdT_f (c := x.esC PS) (show x.esC PS i = false from by unfold VS.esC; exact decide_eq_false (by omega)))] <;> rfl
                exact ih38 _ (by omega) (i + 1) n (by omega) (by rw [cnt_f (show x.esC PS i = false from by unfold VS.esC; exact decide_eq_false (by omega)), i2]) (by omega) rfl H _ ls (cvPv e9 hP) (cvDv e9 hD) hS (lv_sub hl [1, 0, 2] rfl)
              · have g5 := mt (nI_leI (a := (x.esG PS) i) (b := 0) (by omega) (by decide)).mpr g5
                refine lv_aload_n hx hb d_H_endScars_55 rfl (lv_at hl 2 rfl) ?_
                refine gF (v := .ref (ad 5)) hx hb hown hE hK hP 17 rfl rfl layH 2 (by decide) w200 rfl d_H_endScars_56 ?_
                refine lv_iload_n hx hb d_H_endScars_59 rfl (lv_at hl 0 rfl) ?_
                refine lv_aload_n hx hb d_H_endScars_60 rfl (lv_at hl 2 rfl) ?_
                refine gF (v := .ref (ad 5)) hx hb hown hE hK hP 17 rfl rfl layH 2 (by decide) w200 rfl d_H_endScars_61 ?_
                refine lv_iload_n hx hb d_H_endScars_64 rfl (lv_at hl 1 rfl) ?_
                refine nild (f := (fun z9 => nI ((tdT (x.esC PS) x.nsO i) z9))) (n := 64) hx hb hK hP 19 1 rfl rfl (i) (by omega) (by decide) d_H_endScars_65 ?_
                refine tpi (y := nI (x.nsO i)) (congrArg nI (tdT_at _ _ (Nat.le_refl i))) ?_
                refine nistN (v := x.nsO i) (n := 64) hx hb hK hP hD hS 19 1 rfl rfl (n) (by omega) (by decide) d_H_endScars_66 (fun H locs hP hD hS => ?_)
                have hP : va_P D vwCl (VW dA h ad (VS.s_nsP (VS.s_nsT (VS.s_nsF (VS.s_nsO x (va_up (tdT (x.esC PS) x.nsO i) n (x.nsO i))) (tdT (x.esC PS) x.nsF i)) (tdT (x.esC PS) x.nsT i)) (x.esG PS))) H := hP
                have hD : va_D A (VW dA h ad (VS.s_nsP (VS.s_nsT (VS.s_nsF (VS.s_nsO x (va_up (tdT (x.esC PS) x.nsO i) n (x.nsO i))) (tdT (x.esC PS) x.nsF i)) (tdT (x.esC PS) x.nsT i)) (x.esG PS))) := hD
                refine lv_aload_n hx hb d_H_endScars_67 rfl (lv_at hl 2 rfl) ?_
                refine gF (v := .ref (ad 6)) hx hb hown hE hK hP 17 rfl rfl layH 3 (by decide) w201 rfl d_H_endScars_68 ?_
                refine lv_iload_n hx hb d_H_endScars_71 rfl (lv_at hl 0 rfl) ?_
                refine lv_aload_n hx hb d_H_endScars_72 rfl (lv_at hl 2 rfl) ?_
                refine gF (v := .ref (ad 6)) hx hb hown hE hK hP 17 rfl rfl layH 3 (by decide) w201 rfl d_H_endScars_73 ?_
                refine lv_iload_n hx hb d_H_endScars_76 rfl (lv_at hl 1 rfl) ?_
                refine nlld (f := (tdT (x.esC PS) x.nsF i)) (n := 64) hx hb hK hP 20 2 rfl rfl (i) (by omega) (by decide) d_H_endScars_77 ?_
                refine tpl (y := (x.nsF i)) (tdT_at _ _ (Nat.le_refl i)) ?_
                refine nlst (n := 64) hx hb hK hP hD hS 20 2 rfl rfl (n) (by omega) (by decide) d_H_endScars_78 (fun H locs hP hD hS => ?_)
                have hP : va_P D vwCl (VW dA h ad (VS.s_nsP (VS.s_nsT (VS.s_nsF (VS.s_nsO x (va_up (tdT (x.esC PS) x.nsO i) n (x.nsO i))) (va_up (tdT (x.esC PS) x.nsF i) n (x.nsF i))) (tdT (x.esC PS) x.nsT i)) (x.esG PS))) H := hP
                have hD : va_D A (VW dA h ad (VS.s_nsP (VS.s_nsT (VS.s_nsF (VS.s_nsO x (va_up (tdT (x.esC PS) x.nsO i) n (x.nsO i))) (va_up (tdT (x.esC PS) x.nsF i) n (x.nsF i))) (tdT (x.esC PS) x.nsT i)) (x.esG PS))) := hD
                refine lv_aload_n hx hb d_H_endScars_79 rfl (lv_at hl 2 rfl) ?_
                refine gF (v := .ref (ad 7)) hx hb hown hE hK hP 17 rfl rfl layH 4 (by decide) w202 rfl d_H_endScars_80 ?_
                refine lv_iload_n hx hb d_H_endScars_83 rfl (lv_at hl 0 rfl) ?_
                refine lv_aload_n hx hb d_H_endScars_84 rfl (lv_at hl 2 rfl) ?_
                refine gF (v := .ref (ad 7)) hx hb hown hE hK hP 17 rfl rfl layH 4 (by decide) w202 rfl d_H_endScars_85 ?_
                refine lv_iload_n hx hb d_H_endScars_88 rfl (lv_at hl 1 rfl) ?_
                refine nlld (f := (tdT (x.esC PS) x.nsT i)) (n := 64) hx hb hK hP 21 2 rfl rfl (i) (by omega) (by decide) d_H_endScars_89 ?_
                refine tpl (y := (x.nsT i)) (tdT_at _ _ (Nat.le_refl i)) ?_
                refine nlst (n := 64) hx hb hK hP hD hS 21 2 rfl rfl (n) (by omega) (by decide) d_H_endScars_90 (fun H locs hP hD hS => ?_)
                have hP : va_P D vwCl (VW dA h ad (VS.s_nsP (VS.s_nsT (VS.s_nsF (VS.s_nsO x (va_up (tdT (x.esC PS) x.nsO i) n (x.nsO i))) (va_up (tdT (x.esC PS) x.nsF i) n (x.nsF i))) (va_up (tdT (x.esC PS) x.nsT i) n (x.nsT i))) (x.esG PS))) H := hP
                have hD : va_D A (VW dA h ad (VS.s_nsP (VS.s_nsT (VS.s_nsF (VS.s_nsO x (va_up (tdT (x.esC PS) x.nsO i) n (x.nsO i))) (va_up (tdT (x.esC PS) x.nsF i) n (x.nsF i))) (va_up (tdT (x.esC PS) x.nsT i) n (x.nsT i))) (x.esG PS))) := hD
                refine lv_iinc (k := 0) (v := nI (n + 1)) hx hb d_H_endScars_91 hl rfl (iincN (n) 1 1 (by decide)) (by decide) rfl (fun ls hl => ?_)
                have hl : lv_has ls 3 [(1, .int (nI (n + 1))), (2, .int (nI i)), (0, .ref (ad 3))] := hl
                refine lv_iinc (k := 1) (v := nI (i + 1)) hx hb d_H_endScars_94 hl rfl (iincN (i) 1 1 (by decide)) (by decide) rfl (fun ls hl => ?_)
                have hl : lv_has ls 3 [(2, .int (nI (i + 1))), (1, .int (nI (n + 1))), (0, .ref (ad 3))] := hl
                refine lv_goto hx hb d_H_endScars_97 (tgt := 38) rfl ?_
                have e9 : (VS.s_nsP (VS.s_nsT (VS.s_nsF (VS.s_nsO x (va_up (tdT (x.esC PS) x.nsO i) n (x.nsO i))) (va_up (tdT (x.esC PS) x.nsF i) n (x.nsF i))) (va_up (tdT (x.esC PS) x.nsT i) n (x.nsT i))) (x.esG PS) : VS) = VS.s_nsP (VS.s_nsT (VS.s_nsF (VS.s_nsO x (tdT (x.esC PS) x.nsO (i + 1))) (tdT (x.esC PS) x.nsF (i + 1))) (tdT (x.esC PS) x.nsT (i + 1))) (x.esG PS) := by rw [show (tdT (x.esC PS) x.nsF (i + 1)) = (va_up (tdT (x.esC PS) x.nsF i) n (x.nsF i)) from (by rw [tdT_t (c := x.esC PS) (show x.esC PS i = true from by unfold VS.esC; exact decide_eq_true (by omega)) rfl, i2]), show (tdT (x.esC PS) x.nsO (i + 1)) = (va_up (tdT (x.esC PS) x.nsO i) n (x.nsO i)) from (by rw [tdT_t (c := x.esC PS) (show x.esC PS i = true from by unfold VS.esC; exact decide_eq_true (by omega)) rfl, i2]), show (tdT (x.esC PS) x.nsT (i + 1)) = (va_up (tdT (x.esC PS) x.nsT i) n (x.nsT i)) from (by rw [tdT_t (c := x.esC PS) (show x.esC PS i = true from by unfold VS.esC; exact decide_eq_true (by omega)) rfl, i2])] <;> rfl
                exact ih38 _ (by omega) (i + 1) (n + 1) (by omega) (by rw [cnt_t (show x.esC PS i = true from by unfold VS.esC; exact decide_eq_true (by omega)), i2]) (by omega) rfl H _ ls (cvPv e9 hP) (cvDv e9 hD) hS (lv_sub hl [1, 0, 2] rfl)
        have e9 : (VS.s_nsP x (x.scP PS (filG x.nsP 0 0 64) k) : VS) = VS.s_nsP (VS.s_nsT (VS.s_nsF (VS.s_nsO x (tdT (x.esC PS) x.nsO 0)) (tdT (x.esC PS) x.nsF 0)) (tdT (x.esC PS) x.nsT 0)) (x.esG PS) := by rw [show (tdT (x.esC PS) x.nsF 0) = x.nsF from rfl, show (tdT (x.esC PS) x.nsO 0) = x.nsO from rfl, show (tdT (x.esC PS) x.nsT 0) = x.nsT from rfl, show (x.esG PS) = (x.scP PS (filG x.nsP 0 0 64) k) from (by unfold VS.esG; rw [show x.npc = k by omega])] <;> rfl
        exact L38 _ 0 0 (Nat.zero_le _) rfl (Nat.le_refl _) rfl H _ ls (cvPv e9 hP) (cvDv e9 hD) hS (lv_sub hl [1, 0, 2] rfl)
      · have g3 := mt (nI_leI (a := x.npc) (b := k) (by omega) (by omega)).mpr g3
        obtain ⟨pp, ke, hpp, hpk⟩ := hps k (by omega)
        have hpp0 := hpp
        obtain ⟨po, pt, pv, m1, m2, m3, m4⟩ := hpp
        have pk1 := hpk.1
        refine lv_aload_n hx hb d_H_endScars_18 rfl (lv_at hl 1 rfl) ?_
        refine lv_aload_n hx hb d_H_endScars_19 rfl (lv_at hl 1 rfl) ?_
        refine gF (v := .ref (ad 4)) hx hb hown hE hK hP 17 rfl rfl layH 0 (by decide) w199 rfl d_H_endScars_20 ?_
        refine lv_iload_n hx hb d_H_endScars_23 rfl (lv_at hl 0 rfl) ?_
        refine nqld (f := x.nP) (n := 32) hx hb hK hP (18) 4 rfl rfl (k) (by omega) (by decide) ke d_H_endScars_24 ?_
        refine jfV (rnV (As := [.ref pp]) (rest := []) hx hb hml hown hE hK (hN _ _ hS) hP hD (v_countPointsOfScars l D dA H.size h ad (VS.s_nsP x (x.scP PS (filG x.nsP 0 0 64) k)) pp (PS k) hpp0 hpk (show x.nsc ≤ 64 from by omega) h7) (q0 := 17) rfl rfl w1193 w1192 w1194 w1195 w583 rfl rfl ⟨⟨by decide, by decide⟩, rfl⟩ ⟨(Nat.le_of_ble_eq_true rfl), (Nat.le_of_ble_eq_true rfl)⟩ rfl hl.1 rfl (Nat.le_of_ble_eq_true rfl) d_H_endScars_25 ⟨(Nat.le_of_ble_eq_true rfl), (Nat.le_of_ble_eq_true rfl)⟩) hP hD hS hA (fun u7 H locs hp9 hP hD hS => ?_)
        have hP : va_P D vwCl (VW dA h ad (VS.s_nsP x (spK (x.scI (PS k)) (x.scP PS (filG x.nsP 0 0 64) k) (PS k).n))) H := hP
        have hD : va_D A (VW dA h ad (VS.s_nsP x (spK (x.scI (PS k)) (x.scP PS (filG x.nsP 0 0 64) k) (PS k).n))) := hD
        refine lv_iinc (k := 0) (v := nI (k + 1)) hx hb d_H_endScars_28 hl rfl (iincN (k) 1 1 (by decide)) (by decide) rfl (fun ls hl => ?_)
        have hl : lv_has ls 3 [(1, .int (nI (k + 1))), (0, .ref (ad 3))] := hl
        refine lv_goto hx hb d_H_endScars_31 (tgt := 10) rfl ?_
        have e9 : (VS.s_nsP x (spK (x.scI (PS k)) (x.scP PS (filG x.nsP 0 0 64) k) (PS k).n) : VS) = VS.s_nsP x (x.scP PS (filG x.nsP 0 0 64) (k + 1)) := by rw [show (x.scP PS (filG x.nsP 0 0 64) (k + 1)) = (spK (x.scI (PS k)) (x.scP PS (filG x.nsP 0 0 64) k) (PS k).n) from rfl] <;> rfl
        exact ih10 _ (by omega) (k + 1) (by omega) rfl H _ ls (cvPv e9 hP) (cvDv e9 hD) hS (lv_sub hl [0, 1] rfl)
  have e9 : (VS.s_nsP x (filG x.nsP 0 0 64) : VS) = VS.s_nsP x (x.scP PS (filG x.nsP 0 0 64) 0) := by rw [show (x.scP PS (filG x.nsP 0 0 64) 0) = (filG x.nsP 0 0 64) from rfl] <;> rfl
  exact L10 _ 0 (Nat.zero_le _) rfl H _ ls (cvPv e9 hP) (cvDv e9 hD) hS (lv_sub hl [0, 1] rfl)
end
section
/-! Worlds up to their order, worlds in part, calls beside cells that they don't know. -/
theorem pmP {D : va_G} {cl : List vw_C} {ws ws' : va_W} {H : Heap} (h : ws.Perm ws') (hP : va_P D cl ws H) : va_P D cl ws' H := by
  intro k q hq
  obtain ⟨i, hi⟩ := List.getElem?_of_mem (h.mem_iff.mpr (List.mem_of_getElem? hq))
  exact hP i q hi
theorem dN1 {A : Nat → Prop} {ws : va_W} (h : va_D A ws) : (ws.map Prod.fst).Nodup := by
  refine List.pairwise_iff_getElem.mpr (fun i j hi hj hij e => ?_)
  have hi' : i < ws.length := by simpa using hi
  have hj' : j < ws.length := by simpa using hj
  rw [List.getElem_map, List.getElem_map] at e
  have := h.1 i j ws[i] ws[j] (List.getElem?_eq_getElem hi') (List.getElem?_eq_getElem hj') e
  omega
theorem dN2 {A : Nat → Prop} {ws : va_W} (h : (ws.map Prod.fst).Nodup) (hA : ∀ q ∈ ws, A q.1) : va_D A ws := by
  refine ⟨fun i j p q hp hq e => ?_, fun k q hq => hA q (List.mem_of_getElem? hq)⟩
  obtain ⟨hi, rfl⟩ := List.getElem?_eq_some_iff.mp hp
  obtain ⟨hj, rfl⟩ := List.getElem?_eq_some_iff.mp hq
  have key := List.pairwise_iff_getElem.mp h
  rcases Nat.lt_trichotomy i j with g | g | g
  · have h1 := key i j (by simpa using hi) (by simpa using hj) g
    rw [List.getElem_map, List.getElem_map] at h1
    exact absurd e h1
  · exact g
  · have h1 := key j i (by simpa using hj) (by simpa using hi) g
    rw [List.getElem_map, List.getElem_map] at h1
    exact absurd e.symm h1
theorem pmD {A : Nat → Prop} {ws ws' : va_W} (h : ws.Perm ws') (hD : va_D A ws) : va_D A ws' :=
  dN2 ((h.map _).nodup (dN1 hD)) (fun q hq => by
    obtain ⟨k, hk⟩ := List.getElem?_of_mem (h.mem_iff.mpr hq)
    exact hD.2 k q hk)
theorem sbP {D : va_G} {cl : List vw_C} {ws ws' : va_W} {H : Heap} (h : ws'.Sublist ws) (hP : va_P D cl ws H) : va_P D cl ws' H := fun k q hq => by
  obtain ⟨i, hi⟩ := List.getElem?_of_mem (h.subset (List.mem_of_getElem? hq))
  exact hP i q hi
theorem sbD {A : Nat → Prop} {ws ws' : va_W} (h : ws'.Sublist ws) (hD : va_D A ws) : va_D A ws' :=
  dN2 (List.Pairwise.sublist (h.map _) (dN1 hD)) (fun q hq => by
    obtain ⟨k, hk⟩ := List.getElem?_of_mem (h.subset hq)
    exact hD.2 k q hk)
theorem spP {D : va_G} {cl : List vw_C} {wr wc : va_W} {H : Heap} (hP : va_P D cl (wr ++ wc) H) : va_P D cl wc H := sbP (List.sublist_append_right _ _) hP
theorem spD {A : Nat → Prop} {wr wc : va_W} (hD : va_D A (wr ++ wc)) : va_D A wc := sbD (List.sublist_append_right _ _) hD
def fiN (n k : Nat) : List Nat := (List.range k).map (fun i => n + i)
theorem fiC (wr wc : va_W) : (fiN wr.length wc.length).map (fun i => (wr ++ wc)[i]?) = wc.map some := by
  unfold fiN
  rw [List.map_map, ← rg_map wc]
  refine List.map_congr_left (fun i _ => ?_)
  show (wr ++ wc)[wr.length + i]? = wc[i]?
  rw [List.getElem?_append_right (Nat.le_add_right _ _), Nat.add_sub_cancel_left]
theorem fiR (wr wc : va_W) : (List.range wr.length).map (fun i => (wr ++ wc)[i]?) = wr.map some := by
  rw [← rg_map wr]
  exact List.map_congr_left (fun i hi => List.getElem?_append_left (List.mem_range.mp hi))
theorem fiD (wr wc : va_W) : ∀ i ∈ List.range wr.length, i ∉ fiN wr.length wc.length := by
  intro i hi hm
  have h1 := List.mem_range.mp hi
  obtain ⟨j, -, e⟩ := List.mem_map.mp hm
  have e : wr.length + j = i := e
  omega
section JK
variable {p : Program} {l : Launch} {e : Env} {R : Room} {s : State} {m : MethodId} {args : Array Value} {below : List Frame} {meth : Method} {c : Code} {H : Heap} {locs : List Loc} {cells slots : Nat} {Q : State → Prop}
variable {D : va_G} {dA : Nat → ClassId} {A : Nat → Prop} {cc : ByteArray} {pc : Nat} {ls : Array Slot} {rest st0 : List Value} {ws wr wc : va_W} {a : Nat}
theorem jkV {mc ms : Nat} {S : Type} {post : S → Prop} {w1 : S → va_W} {a : Array Value} (hr : va_Run p l e R s m args below meth c H locs cells slots mc ms (F0 m pc ls st0) rest (va_Qv post (fun u t => bW D (va_A wc H.size) (w1 u) t) (va_A wc H.size) a) (va_A wc H.size))
    (hP : va_P D vwCl (wr ++ wc) H) (hD : va_D A (wr ++ wc)) (hS : va_S A s.heap H locs) (hA : ∀ q, s.heap.size ≤ q → A q)
    (kk : ∀ (u : S) (H1 : Heap) (locs1 : List Loc), post u → va_P D vwCl (wr ++ w1 u) H1 → va_D A (wr ++ w1 u) → va_S A s.heap H1 locs1 → W p l e R s m args below meth c H1 locs1 (cells + mc) (slots + ms) Q (F0 m (pc + 3) ls rest)) : W p l e R s m args below meth c H locs cells slots Q (F0 m pc ls st0) :=
  jnV hr hP hD hS hA (fiN wr.length wc.length) (List.range wr.length) (fiC wr wc) (fiR wr wc) (nd_of List.nodup_range) (fiD wr wc) kk
theorem jkI {mc ms : Nat} {S : Type} {post : Int32 → S → Prop} {w1 : S → va_W} {a : Array Value} (hr : va_Run p l e R s m args below meth c H locs cells slots mc ms (F0 m pc ls st0) rest (va_Qi post (fun u t => bW D (va_A wc H.size) (w1 u) t) (va_A wc H.size) a) (va_A wc H.size))
    (hP : va_P D vwCl (wr ++ wc) H) (hD : va_D A (wr ++ wc)) (hS : va_S A s.heap H locs) (hA : ∀ q, s.heap.size ≤ q → A q)
    (kk : ∀ (r : Int32) (u : S) (H1 : Heap) (locs1 : List Loc), post r u → va_P D vwCl (wr ++ w1 u) H1 → va_D A (wr ++ w1 u) → va_S A s.heap H1 locs1 → W p l e R s m args below meth c H1 locs1 (cells + mc) (slots + ms) Q (F0 m (pc + 3) ls (.int r :: rest))) : W p l e R s m args below meth c H locs cells slots Q (F0 m pc ls st0) :=
  jnI hr hP hD hS hA (fiN wr.length wc.length) (List.range wr.length) (fiC wr wc) (fiR wr wc) (nd_of List.nodup_range) (fiD wr wc) kk
theorem jkL {mc ms : Nat} {S : Type} {post : Int64 → S → Prop} {w1 : S → va_W} {a : Array Value} (hr : va_Run p l e R s m args below meth c H locs cells slots mc ms (F0 m pc ls st0) rest (va_Ql post (fun u t => bW D (va_A wc H.size) (w1 u) t) (va_A wc H.size) a) (va_A wc H.size))
    (hP : va_P D vwCl (wr ++ wc) H) (hD : va_D A (wr ++ wc)) (hS : va_S A s.heap H locs) (hA : ∀ q, s.heap.size ≤ q → A q)
    (kk : ∀ (r : Int64) (u : S) (H1 : Heap) (locs1 : List Loc), post r u → va_P D vwCl (wr ++ w1 u) H1 → va_D A (wr ++ w1 u) → va_S A s.heap H1 locs1 → W p l e R s m args below meth c H1 locs1 (cells + mc) (slots + ms) Q (F0 m (pc + 3) ls (.long r :: rest))) : W p l e R s m args below meth c H locs cells slots Q (F0 m pc ls st0) :=
  jnL hr hP hD hS hA (fiN wr.length wc.length) (List.range wr.length) (fiC wr wc) (fiR wr wc) (nd_of List.nodup_range) (fiD wr wc) kk
theorem jkR {mc ms : Nat} {S : Type} {post : S → Prop} {F : S → Nat → Prop} {w1 : S → Nat → va_W} {a : Array Value} (hr : va_Run p l e R s m args below meth c H locs cells slots mc ms (F0 m pc ls st0) rest (va_Qr post (fun u ra t => F u ra ∧ bW D (va_A wc H.size) (w1 u ra) t) (va_A wc H.size) a) (va_A wc H.size))
    (hP : va_P D vwCl (wr ++ wc) H) (hD : va_D A (wr ++ wc)) (hS : va_S A s.heap H locs) (hA : ∀ q, s.heap.size ≤ q → A q)
    (kk : ∀ (u : S) (ra : Nat) (H1 : Heap) (locs1 : List Loc), F u ra → va_P D vwCl (wr ++ w1 u ra) H1 → va_D A (wr ++ w1 u ra) → va_S A s.heap H1 locs1 → W p l e R s m args below meth c H1 locs1 (cells + mc) (slots + ms) Q (F0 m (pc + 3) ls (.ref ra :: rest))) : W p l e R s m args below meth c H locs cells slots Q (F0 m pc ls st0) := by
  have hF := va_free hD hS hA _ (fiC wr wc)
  refine va_callr hr hS (fun q _ h => hF q h) hF (fun u ra t H1 locs1 ht hvm hp hB hz hk hS1 => ?_)
  obtain ⟨hf, hB⟩ := hB
  have hP1 := hB.1
  rw [ht] at hP1
  obtain ⟨g1, g2⟩ := va_join hP hD _ _ (fiC wr wc) (fiR wr wc) (nd_of List.nodup_range) (fiD wr wc) hk hF hP1 hB.2
  exact kk u ra H1 locs1 hf g1 g2 hS1
theorem rkR {S : Type} {F : S → Nat → Prop} {w1 : S → Nat → va_W} {mc ms : Nat} {rt : FieldType} {x : Nat} (hx : p.tables.exec = Jvm.exec) (hb : c.code = cc) (hr : meth.sig.returnType = some rt) (hrt : (∃ n, rt = .object n) ∨ ∃ t, rt = .array t) (hlk : meth.locks = false) (hS : va_S A s.heap H locs) (u : S) (hf : F u x) (hP : va_P D vwCl (w1 u x) H) (hD : va_D A (w1 u x)) (hc : cells ≤ mc) (hsl : slots ≤ ms) (hdg : decode cc pc = .ok (.areturn, 1)) :
    W p l e R s m args below meth c H locs cells slots (MQ below (va_Qr (fun (_ : S) => True) (fun u ra t => F u ra ∧ bW D A (w1 u ra) t) A) args s mc ms A) (F0 m pc ls [.ref x]) :=
  W.widen hc hsl (W.aret hx hb hr hrt (Or.inr ⟨x, rfl⟩) (fun t ht _ => ⟨⟨u, x, rfl, trivial, hf, by rw [ht]; exact hP, hD⟩, hS.F ht⟩) hS.2.2 hdg hlk)
theorem jkN {mc ms : Nat} {S : Type} {w1 : S → va_W} {G : S → Prop} {a : Array Value} (hr : va_Run p l e R s m args below meth c H locs cells slots mc ms (F0 m pc ls st0) rest (va_Qq (fun r u => r = none ∧ G u) (fun u t => bW D (va_A wc H.size) (w1 u) t) (va_A wc H.size) a) (va_A wc H.size))
    (hP : va_P D vwCl (wr ++ wc) H) (hD : va_D A (wr ++ wc)) (hS : va_S A s.heap H locs) (hA : ∀ q, s.heap.size ≤ q → A q)
    (kk : ∀ (u : S) (H1 : Heap) (locs1 : List Loc), G u → va_P D vwCl (wr ++ w1 u) H1 → va_D A (wr ++ w1 u) → va_S A s.heap H1 locs1 → W p l e R s m args below meth c H1 locs1 (cells + mc) (slots + ms) Q (F0 m (pc + 3) ls (.null :: rest))) : W p l e R s m args below meth c H locs cells slots Q (F0 m pc ls st0) := by
  have hF := va_free hD hS hA _ (fiC wr wc)
  refine va_callq hr hS (fun q _ h => hF q h) hF (fun r u t H1 locs1 ht hvm hp hB hz hk hS1 => ?_)
  obtain ⟨rfl, hg⟩ := hp
  have hP1 := hB.1
  rw [ht] at hP1
  obtain ⟨g1, g2⟩ := va_join hP hD _ _ (fiC wr wc) (fiR wr wc) (nd_of List.nodup_range) (fiD wr wc) hk hF hP1 hB.2
  exact kk u H1 locs1 hg g1 g2 hS1
theorem rkNul {S : Type} {G : S → Prop} {w1 : S → va_W} {mc ms : Nat} {rt : FieldType} (hx : p.tables.exec = Jvm.exec) (hb : c.code = cc) (hr : meth.sig.returnType = some rt) (hrt : (∃ n, rt = .object n) ∨ ∃ t, rt = .array t) (hlk : meth.locks = false) (hS : va_S A s.heap H locs) (u : S) (hg : G u) (hP : va_P D vwCl (w1 u) H) (hD : va_D A (w1 u)) (hc : cells ≤ mc) (hsl : slots ≤ ms) (hdg : decode cc pc = .ok (.areturn, 1)) :
    W p l e R s m args below meth c H locs cells slots (MQ below (va_Qq (fun r u => r = none ∧ G u) (fun u t => bW D A (w1 u) t) A) args s mc ms A) (F0 m pc ls [.null]) :=
  W.widen hc hsl (W.aret hx hb hr hrt (Or.inl rfl) (fun t ht _ => ⟨⟨none, u, rfl, ⟨rfl, hg⟩, by rw [ht]; exact hP, hD⟩, hS.F ht⟩) hS.2.2 hdg hlk)
variable {own C : String} {T : u_T} {N ci index : Nat} {fs : List Value}
theorem nOf (hx : p.tables.exec = Jvm.exec) (hb : c.code = cc) (hown : s.vm.findClass own = some m.cls) (hE : eV s) (hK : va_K D vwCl (arT dA) s) (hP : va_P D vwCl ws H) (hD : va_D A ws) (hS : va_S A s.heap H locs) (hA : ∀ q, s.heap.size ≤ q → A q) (hc : vwCl[ci]? = some (C, T, N)) (hlay : ∀ w ∈ u_ws C T N, w ∈ aW) (ty0 : Nat → FieldType) (hty : ∀ k, k < N → parseFieldDescriptor (T k).2.2.1 = some (ty0 k))
    (hcl : Cond.classLink own index C ∈ aW) (hinst : Cond.instantiable C N ∈ aW) (hini : Cond.initialized C ∈ aW) (hfs : ∀ j, j < N → defaultValue (ty0 j) = vp_V fs j) (hcells : cells + 1 ≤ R.cells) (hslots : slots + N ≤ R.slots) (hdg : decode cc pc = .ok (.new index, 3))
    (kk : ∀ (q : Nat) (H1 : Heap), va_P D vwCl ((q, .inr (ci, fs)) :: ws) H1 → va_D A ((q, .inr (ci, fs)) :: ws) → va_S A s.heap H1 locs → W p l e R s m args below meth c H1 locs (cells + 1) (slots + N) Q (F0 m (pc + 3) ls (.ref q :: rest))) : W p l e R s m args below meth c H locs cells slots Q (F0 m pc ls rest) :=
  nO hx hb hown hE hK hP hD hS hA hc hlay ty0 hty hcl hinst hini hfs hcells hslots hdg (fun q H1 g1 g2 g3 => kk q H1 (frP g1) (frD g2) g3)
theorem nnQ (hexec : p.tables.exec = Jvm.exec) (hb : c.code = cc) {own C : String} {index : Nat} (hown : s.vm.findClass own = some m.cls) (hE : eV s) (hclink : Cond.classLink own index C ∈ aW) (hover : Cond.arrayOver (.object C) ∈ aW) (hK : va_K D vwCl (arT dA) s) (hP : va_P D vwCl ws H) (hD : va_D A ws) (hS : va_S A s.heap H locs) (hA : ∀ q, s.heap.size ≤ q → A q)
    (t0 : Nat) {cA0 : ClassId} (ht0 : (arT dA)[t0]? = some (cA0, .object C)) {N' : Nat} (hn : N' < 2 ^ 31) (hbytes : N' * 4 ≤ 536870912) (hcells : cells + 1 ≤ R.cells) (hslots : slots + N' ≤ R.slots) (hdg : decode cc pc = .ok (.anewarray index, 3))
    (kk : ∀ (q : Nat) (H1 : Heap), va_P D vwCl ((q, .inl (cA0, N', .inr (.inr (.inr (.inr (fun _ => none)))))) :: ws) H1 → va_D A ((q, .inl (cA0, N', .inr (.inr (.inr (.inr (fun _ => none)))))) :: ws) → va_S A s.heap H1 locs → W p l e R s m args below meth c H1 locs (cells + 1) (slots + N') Q (F0 m (pc + 3) ls (.ref q :: rest))) : W p l e R s m args below meth c H locs cells slots Q (F0 m pc ls (.int (nI N') :: rest)) :=
  nwQ hexec hb hown hE hclink hover hK hP hD hS hA t0 ht0 (nI_pos hn) (nI_clamp hn) hbytes hcells hslots hdg (fun q H1 g1 g2 g3 => kk q H1 (frP g1) (frD g2) g3)
end JK
/-- what is made goes to what never changes -/
theorem plPerm {dA : Nat → ClassId} {h : Nat} {ad : Nat → Nat} (x : VS) (fr : va_W) : (fr ++ VW dA h ad x).Perm (VW dA h ad (VS.s_pl x (x.pl ++ fr))) := by
  refine List.perm_append_comm.trans (List.Perm.of_eq ?_)
  unfold VW VWf
  rw [List.append_assoc, List.append_assoc]
section QN
variable {p : Program} {l : Launch} {e : Env} {R : Room} {s : State} {m : MethodId} {args : Array Value} {below : List Frame} {meth : Method} {c : Code} {H : Heap} {locs : List Loc} {cells slots : Nat} {Q : State → Prop}
variable {D : va_G} {dA : Nat → ClassId} {A : Nat → Prop} {cc : ByteArray} {pc : Nat} {ls : Array Slot} {rest st0 : List Value} {ws : va_W} {a : Nat}
theorem nqstN (hx : p.tables.exec = Jvm.exec) (hb : c.code = cc) (hK : va_K D vwCl (arT dA) s) (hP : va_P D vwCl ws H) (hD : va_D A ws) (hS : va_S A s.heap H locs) (q0 t0 : Nat) {cA : ClassId} {C : String} {n : Nat} {f : Nat → Option Nat} (ha : ws[q0]? = some (a, .inl (cA, n, .inr (.inr (.inr (.inr f)))))) (ht : (arT dA)[t0]? = some (cA, .object C)) (j : Nat) (hj : j < n) (hn : n < 2 ^ 31) (hdg : decode cc pc = .ok (.aastore, 1))
    (kk : ∀ (H1 : Heap) (locs1 : List Loc), va_P D vwCl (ws.set q0 (a, .inl (cA, n, .inr (.inr (.inr (.inr (va_up f j none))))))) H1 → va_D A (ws.set q0 (a, .inl (cA, n, .inr (.inr (.inr (.inr (va_up f j none))))))) → va_S A s.heap H1 locs1 → W p l e R s m args below meth c H1 locs1 cells slots Q (F0 m (pc + 1) ls rest)) : W p l e R s m args below meth c H locs cells slots Q (F0 m pc ls (.null :: .int (nI j) :: .ref a :: rest)) :=
  va_astqN hx hb hK hP hD hS q0 t0 ha ht (vp_in_nI hj hn) hdg (by rw [nI_clamp (by omega)]; exact kk)
theorem nqstO (hx : p.tables.exec = Jvm.exec) (hb : c.code = cc) (hK : va_K D vwCl (arT dA) s) (hP : va_P D vwCl ws H) (hD : va_D A ws) (hS : va_S A s.heap H locs) (q0 t0 qk ci : Nat) {E : String} {cA : ClassId} {r : vw_C} {n v : Nat} {vs : List Value} {f : Nat → Option Nat} (ha : ws[q0]? = some (a, .inl (cA, n, .inr (.inr (.inr (.inr f)))))) (ht : (arT dA)[t0]? = some (cA, .object E)) (hca : va_Nw (.castable r.1 E) s) (hv : ws[qk]? = some (v, .inr (ci, vs))) (hc : vwCl[ci]? = some r) (j : Nat) (hj : j < n) (hn : n < 2 ^ 31) (hdg : decode cc pc = .ok (.aastore, 1))
    (kk : ∀ (H1 : Heap) (locs1 : List Loc), va_P D vwCl (ws.set q0 (a, .inl (cA, n, .inr (.inr (.inr (.inr (va_up f j (some v)))))))) H1 → va_D A (ws.set q0 (a, .inl (cA, n, .inr (.inr (.inr (.inr (va_up f j (some v)))))))) → va_S A s.heap H1 locs1 → W p l e R s m args below meth c H1 locs1 cells slots Q (F0 m (pc + 1) ls rest)) : W p l e R s m args below meth c H locs cells slots Q (F0 m pc ls (.ref v :: .int (nI j) :: .ref a :: rest)) :=
  va_astqO hx hb hK hP hD hS q0 t0 qk ci ha ht hca hv hc (vp_in_nI hj hn) hdg (by rw [nI_clamp (by omega)]; exact kk)
end QN
/-! Zero bits above and below, as the JDK counts them. -/
def ushI (x : Int32) (k : Int32) : Int32 := (x.toUInt32 >>> (k.toUInt32 &&& Int32.toUInt32 31)).toInt32
def ushL (x : Int64) (k : Int32) : Int64 := (x.toUInt64 >>> (k.toInt64.toUInt64 &&& Int64.toUInt64 63)).toInt64
theorem vx_cnt : ∀ j : Fin 32, (UInt32.ofNat j.val &&& Int32.toUInt32 31).toNat % 32 = j.val := by decide +kernel
theorem ushI_N {k j : Nat} (hk : k < 2 ^ 32) (hj : j < 32) : ushI (nI k) (nI j) = nI (k / 2 ^ j) := by
  have hs : k >>> j ≤ k := by
    rw [Nat.shiftRight_eq_div_pow]
    exact Nat.div_le_self _ _
  have e2 : UInt32.ofNat k >>> (UInt32.ofNat j &&& Int32.toUInt32 31) = UInt32.ofNat (k >>> j) := by
    apply UInt32.toNat_inj.1
    have h1 : (UInt32.ofNat k).toNat = k := Nat.mod_eq_of_lt (by omega)
    have h2 : (UInt32.ofNat (k >>> j)).toNat = k >>> j := Nat.mod_eq_of_lt (by omega)
    rw [UInt32.toNat_shiftRight, vx_cnt ⟨j, hj⟩, h1, h2]
  show (UInt32.ofNat k >>> (UInt32.ofNat j &&& Int32.toUInt32 31)).toInt32 = _
  rw [e2, Nat.shiftRight_eq_div_pow]
  rfl
theorem vx_cu : ∀ k, k < 64 → ((nI k).toInt64.toUInt64 &&& Int64.toUInt64 63) = UInt64.ofNat k := by decide +kernel
theorem vx_of (x : Int64) : ∃ n, n < 2 ^ 64 ∧ x = lN n := ⟨x.toBitVec.toNat, x.toBitVec.isLt, Int64.toBitVec_inj.mp (by show _ = BitVec.ofNat 64 _; simp)⟩
theorem vx_of32 (x : Int32) : ∃ n, n < 2 ^ 32 ∧ x = nI n := ⟨x.toBitVec.toNat, x.toBitVec.isLt, Int32.toBitVec_inj.mp (by show _ = BitVec.ofNat 32 _; simp)⟩
theorem ushL_N {n k : Nat} (hn : n < 2 ^ 64) (hk : k < 64) : ushL (lN n) (nI k) = lN (n / 2 ^ k) := by
  unfold ushL
  rw [vx_cu k hk]
  apply Int64.toBitVec_inj.mp
  apply BitVec.eq_of_toNat_eq
  show ((lN n).toUInt64 >>> UInt64.ofNat k).toNat = (BitVec.ofNat 64 _).toNat
  have h1 : (UInt64.ofNat k).toNat = k := by
    show (BitVec.ofNat 64 k).toNat = k
    rw [BitVec.toNat_ofNat, Nat.mod_eq_of_lt (by omega)]
  have h2 : (lN n).toUInt64.toNat = n := by
    show (BitVec.ofNat 64 n).toNat = n
    rw [BitVec.toNat_ofNat, Nat.mod_eq_of_lt hn]
  rw [UInt64.toNat_shiftRight, h1, h2, Nat.mod_eq_of_lt hk, Nat.shiftRight_eq_div_pow, BitVec.toNat_ofNat, Nat.mod_eq_of_lt (Nat.lt_of_le_of_lt (Nat.div_le_self _ _) hn)]
theorem lN_toI (n : Nat) : (lN n).toInt32 = nI n := by
  apply Int32.toBitVec_inj.mp
  apply BitVec.eq_of_toNat_eq
  show (BitVec.signExtend 32 (BitVec.ofNat 64 n)).toNat = (BitVec.ofNat 32 n).toNat
  rw [BitVec.signExtend_eq_setWidth_of_le _ (by decide), BitVec.toNat_setWidth, BitVec.toNat_ofNat, BitVec.toNat_ofNat]
  omega
theorem nI_m32 (n : Nat) : nI n = nI (n % 2 ^ 32) := by
  apply Int32.toBitVec_inj.mp
  apply BitVec.eq_of_toNat_eq
  show (BitVec.ofNat 32 n).toNat = (BitVec.ofNat 32 (n % 2 ^ 32)).toNat
  rw [BitVec.toNat_ofNat, BitVec.toNat_ofNat, Nat.mod_mod]
theorem nI_z0 {n : Nat} (h : n < 2 ^ 32) : nI n = 0 ↔ n = 0 := by
  refine ⟨fun e => ?_, fun e => by rw [e]; rfl⟩
  have e1 : (BitVec.ofNat 32 n).toNat = (BitVec.ofNat 32 0).toNat := congrArg (fun z : Int32 => z.toBitVec.toNat) e
  rw [BitVec.toNat_ofNat, BitVec.toNat_ofNat, Nat.mod_eq_of_lt h] at e1
  exact e1
theorem nI_gt {n : Nat} (h : n < 2 ^ 32) : (0 < nI n) ↔ (0 < n ∧ n < 2 ^ 31) := by
  by_cases h1 : n < 2 ^ 31
  · rw [show (0 : Int32) = nI 0 from rfl, nI_ltI (by decide) h1]
    omega
  · constructor
    · intro h2
      exfalso
      have h3 := Int32.lt_iff_toInt_lt.mp h2
      have h4 : (nI n).toInt = (BitVec.ofNat 32 n).toInt := rfl
      rw [h4, BitVec.toInt_eq_toNat_cond, BitVec.toNat_ofNat, Nat.mod_eq_of_lt h, if_neg (by omega)] at h3
      have h5 : (0 : Int32).toInt = 0 := by decide
      rw [h5] at h3
      omega
    · intro h2
      omega
/-- leading zeros, a step: if the number is too large it goes down -/
def nlS (t k d : Int32) (p : Int32 × Int32) : Int32 × Int32 := if p.1 < t then p else (ushI p.1 k, p.2 + d)
def nl4 (x : Int32) : Int32 × Int32 := nlS 4 2 (-2) (nlS 16 4 (-4) (nlS 256 8 (-8) (nlS 65536 16 (-16) (x, 31))))
def nlI (x : Int32) : Int32 := if 0 < x then (nl4 x).2 - ushI (nl4 x).1 1 else if x = 0 then 32 else 0
def nS (T k : Nat) (p : Nat × Nat) : Nat × Nat := if p.1 < T then p else (p.1 / 2 ^ k, p.2 - k)
theorem nI_dn {c k : Nat} (d : Int32) (hd : d + nI k = 0) (h : k ≤ c) : nI c + d = nI (c - k) := by
  have e : nI c = nI (c - k) + nI k := by rw [nI_add]; congr 1; omega
  rw [e, Int32.add_assoc, Int32.add_comm (nI k) d, hd, Int32.add_zero]
theorem nlS_N {T k v c : Nat} (d : Int32) (hd : d + nI k = 0) (hk : k < 32) (hT : T < 2 ^ 31) (hv : v < 2 ^ 31) (h : k ≤ c) : nlS (nI T) (nI k) d (nI v, nI c) = (nI (nS T k (v, c)).1, nI (nS T k (v, c)).2) := by
  unfold nlS nS
  by_cases g : v < T
  · rw [if_pos ((nI_ltI hv hT).mpr g), if_pos g]
  · rw [if_neg (mt (nI_ltI hv hT).mp g), if_neg g]
    show (ushI (nI v) (nI k), nI c + d) = (nI (v / 2 ^ k), nI (c - k))
    rw [ushI_N (by omega) hk, nI_dn d hd h]
theorem nS_ok {n T k : Nat} {p : Nat × Nat} (h1 : p.1 = n / 2 ^ (31 - p.2)) (h2 : p.2 ≤ 31) (h3 : 0 < p.1) (hk : k ≤ p.2) (hT : 2 ^ k ≤ T) : (nS T k p).1 = n / 2 ^ (31 - (nS T k p).2) ∧ (nS T k p).2 ≤ 31 ∧ 0 < (nS T k p).1 := by
  unfold nS
  by_cases g : p.1 < T
  · rw [if_pos g]
    exact ⟨h1, h2, h3⟩
  · rw [if_neg g]
    refine ⟨?_, by show p.2 - k ≤ 31; omega, Nat.div_pos (by omega) (Nat.two_pow_pos k)⟩
    show p.1 / 2 ^ k = n / 2 ^ (31 - (p.2 - k))
    rw [h1, Nat.div_div_eq_div_mul, ← Nat.pow_add]
    congr 2
    omega
theorem nl4_N {n : Nat} (h0 : 0 < n) (hn : n < 2 ^ 31) : ∃ v c : Nat, nl4 (nI n) = (nI v, nI c) ∧ v = n / 2 ^ (31 - c) ∧ c ≤ 31 ∧ 1 ≤ c ∧ 0 < v ∧ v < 4 := by
  have a0 : (n, 31).1 = n / 2 ^ (31 - (n, 31).2) := by show n = n / 2 ^ 0; rw [Nat.pow_zero, Nat.div_one]
  obtain ⟨a1, b1, c1⟩ := nS_ok (T := 65536) (k := 16) a0 (by show 31 ≤ 31; omega) h0 (by show 16 ≤ 31; omega) (by decide)
  have e1 := nlS_N (T := 65536) (k := 16) (v := n) (c := 31) (-16) (by decide) (by decide) (by decide) hn (by decide)
  have d1 : (nS 65536 16 (n, 31)).1 < 65536 ∧ 15 ≤ (nS 65536 16 (n, 31)).2 := by
    unfold nS
    split
    · next g => exact ⟨g, by show 15 ≤ 31; omega⟩
    · refine ⟨?_, by show 15 ≤ 31 - 16; omega⟩
      show n / 2 ^ 16 < 65536
      omega
  generalize nS 65536 16 (n, 31) = p1 at *
  obtain ⟨v1, m1⟩ := p1
  have a1 : v1 = n / 2 ^ (31 - m1) := a1
  have b1 : m1 ≤ 31 := b1
  have c1 : 0 < v1 := c1
  have d1 : v1 < 65536 ∧ 15 ≤ m1 := d1
  obtain ⟨a2, b2, c2⟩ := nS_ok (T := 256) (k := 8) (p := (v1, m1)) a1 b1 c1 (show 8 ≤ m1 by omega) (by decide)
  have e2 := nlS_N (T := 256) (k := 8) (v := v1) (c := m1) (-8) (by decide) (by decide) (by decide) (by omega) (by omega)
  have d2 : (nS 256 8 (v1, m1)).1 < 256 ∧ 7 ≤ (nS 256 8 (v1, m1)).2 := by
    unfold nS
    split
    · next g => exact ⟨g, by show 7 ≤ m1; omega⟩
    · refine ⟨?_, by show 7 ≤ m1 - 8; omega⟩
      show v1 / 2 ^ 8 < 256
      omega
  generalize nS 256 8 (v1, m1) = p2 at *
  obtain ⟨v2, m2⟩ := p2
  have a2 : v2 = n / 2 ^ (31 - m2) := a2
  have b2 : m2 ≤ 31 := b2
  have c2 : 0 < v2 := c2
  have d2 : v2 < 256 ∧ 7 ≤ m2 := d2
  obtain ⟨a3, b3, c3⟩ := nS_ok (T := 16) (k := 4) (p := (v2, m2)) a2 b2 c2 (show 4 ≤ m2 by omega) (by decide)
  have e3 := nlS_N (T := 16) (k := 4) (v := v2) (c := m2) (-4) (by decide) (by decide) (by decide) (by omega) (by omega)
  have d3 : (nS 16 4 (v2, m2)).1 < 16 ∧ 3 ≤ (nS 16 4 (v2, m2)).2 := by
    unfold nS
    split
    · next g => exact ⟨g, by show 3 ≤ m2; omega⟩
    · refine ⟨?_, by show 3 ≤ m2 - 4; omega⟩
      show v2 / 2 ^ 4 < 16
      omega
  generalize nS 16 4 (v2, m2) = p3 at *
  obtain ⟨v3, m3⟩ := p3
  have a3 : v3 = n / 2 ^ (31 - m3) := a3
  have b3 : m3 ≤ 31 := b3
  have c3 : 0 < v3 := c3
  have d3 : v3 < 16 ∧ 3 ≤ m3 := d3
  obtain ⟨a4, b4, c4⟩ := nS_ok (T := 4) (k := 2) (p := (v3, m3)) a3 b3 c3 (show 2 ≤ m3 by omega) (by decide)
  have e4 := nlS_N (T := 4) (k := 2) (v := v3) (c := m3) (-2) (by decide) (by decide) (by decide) (by omega) (by omega)
  have d4 : (nS 4 2 (v3, m3)).1 < 4 ∧ 1 ≤ (nS 4 2 (v3, m3)).2 := by
    unfold nS
    split
    · next g => exact ⟨g, by show 1 ≤ m3; omega⟩
    · refine ⟨?_, by show 1 ≤ m3 - 2; omega⟩
      show v3 / 2 ^ 2 < 4
      omega
  generalize nS 4 2 (v3, m3) = p4 at *
  obtain ⟨v4, m4⟩ := p4
  refine ⟨v4, m4, ?_, a4, b4, d4.2, c4, d4.1⟩
  unfold nl4
  have e1 : nlS 65536 16 (-16) (nI n, 31) = (nI v1, nI m1) := e1
  have e2 : nlS 256 8 (-8) (nI v1, nI m1) = (nI v2, nI m2) := e2
  have e3 : nlS 16 4 (-4) (nI v2, nI m2) = (nI v3, nI m3) := e3
  have e4 : nlS 4 2 (-2) (nI v3, nI m3) = (nI v4, nI m4) := e4
  rw [e1, e2, e3, e4]
theorem nlI_N {n : Nat} (h0 : 0 < n) (hn : n < 2 ^ 31) : nlI (nI n) = nI (31 - n.log2) := by
  obtain ⟨v, c, e, hv, hc, hc1, hv0, hv4⟩ := nl4_N h0 hn
  unfold nlI
  rw [if_pos ((nI_gt (by omega)).mpr ⟨h0, hn⟩), e]
  show nI c - ushI (nI v) 1 = _
  rw [show (1 : Int32) = nI 1 from rfl, ushI_N (by omega) (by decide), pk_sub (by omega)]
  congr 1
  have hp := Nat.two_pow_pos (31 - c)
  have hl : n.log2 = 31 - c + v / 2 := by
    refine (Nat.log2_eq_iff (by omega)).mpr ?_
    have hv1 : v = 1 ∨ v = 2 ∨ v = 3 := by omega
    have g1 := Nat.div_mul_le_self n (2 ^ (31 - c))
    have g2 := Nat.lt_div_mul_add (a := n) hp
    rw [← hv] at g1 g2
    rcases hv1 with q | q | q
    · subst q
      rw [show 31 - c + 1 / 2 = 31 - c from rfl, Nat.pow_succ]
      omega
    · subst q
      rw [show 31 - c + 2 / 2 = 31 - c + 1 from rfl, Nat.pow_succ, Nat.pow_succ]
      omega
    · subst q
      rw [show 31 - c + 3 / 2 = 31 - c + 1 from rfl, Nat.pow_succ, Nat.pow_succ]
      omega
  rw [hl]
  omega
theorem nlI_neg {n : Nat} (h1 : 2 ^ 31 ≤ n) (hn : n < 2 ^ 32) : nlI (nI n) = 0 := by
  unfold nlI
  rw [if_neg (fun z => by have := (nI_gt hn).mp z; omega), if_neg (fun z => by have := (nI_z0 hn).mp z; omega)]
/-- .. of 64 bits -/
def nlL (x : Int64) : Int32 := if (ushL x 32).toInt32 = 0 then 32 + nlI x.toInt32 else nlI (ushL x 32).toInt32
def clzN (n : Nat) : Nat := if n = 0 then 64 else 63 - n.log2
theorem nlL_N {n : Nat} (hn : n < 2 ^ 64) : nlL (lN n) = nI (clzN n) := by
  have e1 : (ushL (lN n) 32).toInt32 = nI (n / 2 ^ 32) := by rw [show (32 : Int32) = nI 32 from rfl, ushL_N hn (by decide), lN_toI]
  have hd : n / 2 ^ 32 < 2 ^ 32 := by omega
  unfold nlL
  rw [e1]
  by_cases h0 : n / 2 ^ 32 = 0
  · rw [if_pos ((nI_z0 hd).mpr h0), lN_toI]
    have hlt : n < 2 ^ 32 := by omega
    by_cases h1 : n = 0
    · subst h1
      decide
    · unfold clzN
      rw [if_neg h1]
      by_cases h2 : n < 2 ^ 31
      · rw [nlI_N (by omega) h2, show (32 : Int32) = nI 32 from rfl, nI_add]
        congr 1
        have := (Nat.log2_lt h1).mpr h2
        omega
      · rw [nlI_neg (by omega) hlt]
        have h3 : n.log2 = 31 := (Nat.log2_eq_iff h1).mpr ⟨by omega, by omega⟩
        rw [h3]
        rfl
  · rw [if_neg (mt (nI_z0 hd).mp h0)]
    have h1 : n ≠ 0 := by omega
    unfold clzN
    rw [if_neg h1]
    by_cases h2 : n / 2 ^ 32 < 2 ^ 31
    · rw [nlI_N (by omega) h2]
      congr 1
      have hl : n.log2 = (n / 2 ^ 32).log2 + 32 := by
        have g := (Nat.log2_eq_iff (n := n / 2 ^ 32) (k := (n / 2 ^ 32).log2) h0).mp rfl
        refine (Nat.log2_eq_iff h1).mpr ⟨?_, ?_⟩
        · rw [Nat.pow_add]
          have := Nat.div_mul_le_self n (2 ^ 32)
          exact Nat.le_trans (Nat.mul_le_mul_right _ g.1) this
        · have hL : ∀ L : Nat, L + 32 + 1 = (L + 1) + 32 := fun L => by omega
          rw [hL, Nat.pow_add]
          exact (Nat.div_lt_iff_lt_mul (by decide)).mp g.2
      have := (Nat.log2_lt h0).mpr h2
      omega
    · rw [nlI_neg (by omega) hd]
      have h3 : n.log2 = 63 := (Nat.log2_eq_iff h1).mpr ⟨by omega, by omega⟩
      rw [h3]
      rfl
theorem clzN_le (n : Nat) : clzN n ≤ 64 := by
  unfold clzN
  split <;> omega
/-- trailing zeros -/
def ntS (t k d : Int32) (p : Int32 × Int32) : Int32 × Int32 := if p.1 ≤ t then p else (ushI p.1 k, p.2 + d)
def nt4 (i : Int32) : Int32 × Int32 := ntS 4 2 2 (ntS 16 4 4 (ntS 256 8 8 (ntS 65536 16 16 (i, 1))))
def ntB (i : Int32) : Int32 := if i ≤ 0 then i &&& 32 else (nt4 i).2 + ushI (nt4 i).1 1
def ntI (x : Int32) : Int32 := ntB ((x ^^^ (-1)) &&& (x - 1))
theorem ntB_p : ∀ t, t < 32 → ntB (nI (2 ^ t - 1)) = nI t := by decide +kernel
def ctG : Nat → Nat → Nat
  | 0, _ => 0
  | f + 1, n => if n % 2 = 0 then ctG f (n / 2) + 1 else 0
theorem ctG_p : ∀ (f n : Nat), 0 < n → n < 2 ^ f → ctG f n < f ∧ ∃ q, n = 2 ^ ctG f n * (2 * q + 1)
  | 0, n, h0, h1 => by simp at h1; omega
  | f + 1, n, h0, h1 => by
    unfold ctG
    by_cases h : n % 2 = 0
    · rw [if_pos h]
      obtain ⟨a, q, hq⟩ := ctG_p f (n / 2) (by omega) (by rw [Nat.pow_succ] at h1; omega)
      refine ⟨by omega, q, ?_⟩
      rw [Nat.pow_succ, Nat.mul_right_comm, ← hq]
      omega
    · rw [if_neg h]
      exact ⟨by omega, n / 2, by rw [Nat.pow_zero]; omega⟩
theorem nI_bit {n i : Nat} (hi : i < 32) : (nI n).toBitVec.getLsbD i = n.testBit i := by
  show (BitVec.ofNat 32 n).getLsbD i = _
  rw [BitVec.getLsbD_ofNat]
  simp [hi]
theorem m1_bit : ∀ i, i < 32 → (-1 : Int32).toBitVec.getLsbD i = true := by decide +kernel
theorem mask_N {t q : Nat} (ht : t < 32) : ((nI (2 ^ t * (2 * q + 1))) ^^^ (-1)) &&& (nI (2 ^ t * (2 * q + 1)) - 1) = nI (2 ^ t - 1) := by
  have hp := Nat.two_pow_pos t
  have hs : nI (2 ^ t * (2 * q + 1)) - 1 = nI (2 ^ t * (2 * q) + (2 ^ t - 1)) := by
    rw [show (1 : Int32) = nI 1 from rfl, pk_sub (by rw [Nat.mul_add]; omega)]
    congr 1
    rw [Nat.mul_add]
    omega
  rw [hs]
  apply Int32.toBitVec_inj.mp
  apply BitVec.eq_of_getLsbD_eq
  intro i hi
  rw [Int32.toBitVec_and, BitVec.getLsbD_and, Int32.toBitVec_xor, BitVec.getLsbD_xor, m1_bit i hi, nI_bit hi, nI_bit hi, nI_bit hi, Nat.testBit_two_pow_sub_one, Nat.testBit_two_pow_mul, Nat.testBit_two_pow_mul_add _ (by omega)]
  by_cases h : i < t
  · rw [if_pos h, Nat.testBit_two_pow_sub_one]
    simp [h]
  · rw [if_neg h]
    cases e : i - t with
    | zero => simp [h, Nat.testBit_zero]
    | succ j =>
      rw [Nat.testBit_succ, Nat.testBit_succ, show (2 * q + 1) / 2 = q by omega, show 2 * q / 2 = q by omega]
      simp [h]
theorem ntI_N {n : Nat} (h0 : 0 < n) (hn : n < 2 ^ 32) : ntI (nI n) = nI (ctG 32 n) := by
  obtain ⟨a, q, hq⟩ := ctG_p 32 n h0 hn
  unfold ntI
  rw [show nI n = nI (2 ^ ctG 32 n * (2 * q + 1)) by rw [← hq], mask_N a, ntB_p _ a]
def ntL (x : Int64) : Int32 := if x.toInt32 = 0 then 32 + ntI (ushL x 32).toInt32 else ntI x.toInt32
def ctzN (n : Nat) : Nat := if n = 0 then 64 else ctG 64 n
theorem ctG_f : ∀ (f g n : Nat), 0 < n → n < 2 ^ f → f ≤ g → ctG g n = ctG f n
  | 0, g, n, h0, h1, _ => by simp at h1; omega
  | f + 1, 0, n, h0, h1, h2 => by omega
  | f + 1, g + 1, n, h0, h1, h2 => by
    unfold ctG
    by_cases h : n % 2 = 0
    · rw [if_pos h, if_pos h, ctG_f f g (n / 2) (by omega) (by rw [Nat.pow_succ] at h1; omega) (by omega)]
    · rw [if_neg h, if_neg h]
theorem ctG_s : ∀ (k f n : Nat), 0 < n → ctG (k + f) (2 ^ k * n) = k + ctG f n
  | 0, f, n, _ => by rw [Nat.pow_zero, Nat.one_mul, Nat.zero_add, Nat.zero_add]
  | k + 1, f, n, h => by
    rw [show k + 1 + f = (k + f) + 1 by omega]
    show (if 2 ^ (k + 1) * n % 2 = 0 then ctG (k + f) (2 ^ (k + 1) * n / 2) + 1 else 0) = _
    have e : 2 ^ (k + 1) * n = 2 * (2 ^ k * n) := by rw [Nat.pow_succ, Nat.mul_comm (2 ^ k) 2, Nat.mul_assoc]
    rw [e, if_pos (by omega), show 2 * (2 ^ k * n) / 2 = 2 ^ k * n by omega, ctG_s k f n h]
    omega
theorem ctG_m : ∀ (k n : Nat), n % 2 ^ k ≠ 0 → ∀ f, k ≤ f → ctG f n = ctG k (n % 2 ^ k)
  | 0, n, h, _, _ => absurd (by rw [Nat.pow_zero, Nat.mod_one]) h
  | k + 1, n, h, 0, hf => by omega
  | k + 1, n, h, f + 1, hf => by
    have e1 : n % 2 ^ (k + 1) % 2 = n % 2 := by rw [Nat.mod_mod_of_dvd]; exact ⟨2 ^ k, by rw [Nat.pow_succ, Nat.mul_comm]⟩
    have e2 : n % 2 ^ (k + 1) / 2 = n / 2 % 2 ^ k := by rw [Nat.pow_succ, Nat.mul_comm, Nat.mod_mul_right_div_self]
    unfold ctG
    rw [e1, e2]
    by_cases g : n % 2 = 0
    · rw [if_pos g, if_pos g, ctG_m k (n / 2) (by intro z; rw [z] at e2; omega) f (by omega)]
    · rw [if_neg g, if_neg g]
theorem ntL_N {n : Nat} (hn : n < 2 ^ 64) : ntL (lN n) = nI (ctzN n) := by
  have e1 : (ushL (lN n) 32).toInt32 = nI (n / 2 ^ 32) := by rw [show (32 : Int32) = nI 32 from rfl, ushL_N hn (by decide), lN_toI]
  have hd : n / 2 ^ 32 < 2 ^ 32 := by omega
  have hm : n % 2 ^ 32 < 2 ^ 32 := by omega
  unfold ntL
  rw [e1, lN_toI, nI_m32 n]
  unfold ctzN
  by_cases h0 : n % 2 ^ 32 = 0
  · rw [if_pos ((nI_z0 hm).mpr h0)]
    by_cases h1 : n = 0
    · subst h1
      decide
    · rw [if_neg h1, ntI_N (by omega) hd, show (32 : Int32) = nI 32 from rfl, nI_add]
      congr 1
      have := ctG_s 32 32 (n / 2 ^ 32) (by omega)
      rw [← this]
      congr 1
      omega
  · rw [if_neg (mt (nI_z0 hm).mp h0), if_neg (by omega), ntI_N (by omega) hm, ctG_m 32 n h0 64 (by decide)]
theorem ctzN_le (n : Nat) (hn : n < 2 ^ 64) : ctzN n ≤ 64 := by
  unfold ctzN
  split
  · exact Nat.le_refl _
  · have := (ctG_p 64 n (by omega) hn).1
    omega
end
section
/-! A parcel made: places by series, the bits of its chunks. -/
def clzL (x : Int64) : Nat := clzN x.toBitVec.toNat
def ctzL (x : Int64) : Nat := ctzN x.toBitVec.toNat
theorem vx_un (x : Int64) : x = lN x.toBitVec.toNat := Int64.toBitVec_inj.mp (by show _ = BitVec.ofNat 64 _; simp)
theorem nlL_U (x : Int64) : nlL x = nI (clzL x) := by
  have h := nlL_N x.toBitVec.isLt
  rw [← vx_un x] at h
  exact h
theorem ntL_U (x : Int64) : ntL x = nI (ctzL x) := by
  have h := ntL_N x.toBitVec.isLt
  rw [← vx_un x] at h
  exact h
theorem clzL_le (x : Int64) : clzL x ≤ 64 := clzN_le _
theorem ctzL_le (x : Int64) : ctzL x ≤ 64 := ctzN_le _ x.toBitVec.isLt
def abL (x : Int64) : Nat := min 31 (clzL x)
theorem un_0 {x : Int64} (h : ¬ x = 0) : x.toBitVec.toNat ≠ 0 := fun z => h (Int64.toBitVec_inj.mp (BitVec.eq_of_toNat_eq (by rw [z]; rfl)))
theorem ab_be {x : Int64} (h : ¬ x = 0) : abL x + ctzL x ≤ 64 := by
  have h0 := un_0 h
  have h1 := (ctG_p 64 x.toBitVec.toNat (by omega) x.toBitVec.isLt)
  obtain ⟨a, q, hq⟩ := h1
  have h2 : ctG 64 x.toBitVec.toNat ≤ x.toBitVec.toNat.log2 := by
    refine (Nat.le_log2 h0).mpr ?_
    exact Nat.le_of_dvd (by omega) ⟨2 * q + 1, hq⟩
  have h3 : clzL x = 63 - x.toBitVec.toNat.log2 := if_neg h0
  have h4 : ctzL x = ctG 64 x.toBitVec.toNat := if_neg h0
  unfold abL
  have h5 : min 31 (clzL x) ≤ clzL x := Nat.min_le_right _ _
  have h6 := (Nat.log2_lt h0).mpr x.toBitVec.isLt
  omega
theorem abL_le (x : Int64) : abL x ≤ 31 := Nat.min_le_left _ _
/-- does a chunk begin here -/
def chB (o : Nat → Nat) (i : Nat) : Bool := decide (i = 0) || !decide (o i = o (i - 1))
def grG (t : Nat → Int64) : Nat → Int64
  | 0 => -1
  | i + 1 => maxL (grG t i) (t i)
abbrev bcT : Type := Nat × Int64 × Int32 × Nat
def bc2 (st x : Int64) (g : bcT) : bcT :=
  if x = 0 then (g.1 + tbN (st - g.2.1) + 1, st, g.2.2.1, g.2.2.2) else
  if g.2.2.1 = -1 ∨ nI (abL x) < g.2.2.1 ∨ nI (ctzL x) < 64 - g.2.2.1 - nI g.2.2.2 then (g.1 + tbN (st - g.2.1) + (13 + (64 - abL x - ctzL x)), st, nI (abL x), 64 - abL x - ctzL x) else (g.1 + tbN (st - g.2.1) + (2 + g.2.2.2), st, g.2.2.1, g.2.2.2)
def bcS (o : Nat → Nat) (t v : Nat → Int64) (i : Nat) (g : bcT) : bcT := if chB o i = true then (g.1 + 104, 0, -1, g.2.2.2) else bc2 (t i - t (i - 1)) (v i ^^^ v (i - 1)) g
def bcG (o : Nat → Nat) (t v : Nat → Int64) : Nat → bcT
  | 0 => (0, 0, -1, 0)
  | i + 1 => bcS o t v i (bcG o t v i)
section BC
variable {o : Nat → Nat} {t v : Nat → Int64} {i sm fl : Nat} {sp : Int64} {fa : Int32}
theorem bc_a (h : i = 0 ∨ ¬ o i = o (i - 1)) (h2 : bcG o t v i = (sm, sp, fa, fl)) : bcG o t v (i + 1) = (sm + 104, 0, -1, fl) := by
  show bcS o t v i (bcG o t v i) = _
  unfold bcS
  rw [h2, if_pos]
  unfold chB
  rcases h with h | h
  · rw [decide_eq_true h]; rfl
  · rw [decide_eq_false h]; simp
theorem bc_c (h : ¬ i = 0) (h1 : o i = o (i - 1)) (h2 : bcG o t v i = (sm, sp, fa, fl)) : bcG o t v (i + 1) = bc2 (t i - t (i - 1)) (v i ^^^ v (i - 1)) (sm, sp, fa, fl) := by
  show bcS o t v i (bcG o t v i) = _
  unfold bcS
  rw [h2, if_neg]
  unfold chB
  rw [decide_eq_false h, decide_eq_true h1]
  decide
theorem bc_z (h : ¬ i = 0) (h1 : o i = o (i - 1)) (hx : v i ^^^ v (i - 1) = 0) (h2 : bcG o t v i = (sm, sp, fa, fl)) : bcG o t v (i + 1) = (sm + tbN (t i - t (i - 1) - sp) + 1, t i - t (i - 1), fa, fl) := by
  rw [bc_c h h1 h2]
  exact if_pos hx
theorem bc_n (h : ¬ i = 0) (h1 : o i = o (i - 1)) (hx : ¬ v i ^^^ v (i - 1) = 0) (hc : fa = -1 ∨ nI (abL (v i ^^^ v (i - 1))) < fa ∨ nI (ctzL (v i ^^^ v (i - 1))) < 64 - fa - nI fl) (h2 : bcG o t v i = (sm, sp, fa, fl)) :
    bcG o t v (i + 1) = (sm + tbN (t i - t (i - 1) - sp) + (13 + (64 - abL (v i ^^^ v (i - 1)) - ctzL (v i ^^^ v (i - 1)))), t i - t (i - 1), nI (abL (v i ^^^ v (i - 1))), 64 - abL (v i ^^^ v (i - 1)) - ctzL (v i ^^^ v (i - 1))) := by
  rw [bc_c h h1 h2]
  exact (if_neg hx).trans (if_pos hc)
theorem bc_k (h : ¬ i = 0) (h1 : o i = o (i - 1)) (hx : ¬ v i ^^^ v (i - 1) = 0) (c1 : ¬ fa = -1) (c2 : ¬ nI (abL (v i ^^^ v (i - 1))) < fa) (c3 : ¬ nI (ctzL (v i ^^^ v (i - 1))) < 64 - fa - nI fl) (h2 : bcG o t v i = (sm, sp, fa, fl)) :
    bcG o t v (i + 1) = (sm + tbN (t i - t (i - 1) - sp) + (2 + fl), t i - t (i - 1), fa, fl) := by
  rw [bc_c h h1 h2]
  exact (if_neg hx).trans (if_neg (fun z => z.elim c1 (fun z => z.elim c2 c3)))
end BC
theorem bcG_le (o : Nat → Nat) (t v : Nat → Int64) : ∀ i, (bcG o t v i).1 ≤ 122 * i ∧ (bcG o t v i).2.2.2 ≤ 64
  | 0 => ⟨Nat.le_refl _, by show 0 ≤ 64; omega⟩
  | i + 1 => by
    obtain ⟨h1, h2⟩ := bcG_le o t v i
    show (bcS o t v i (bcG o t v i)).1 ≤ _ ∧ (bcS o t v i (bcG o t v i)).2.2.2 ≤ 64
    generalize bcG o t v i = g at h1 h2 ⊢
    unfold bcS bc2
    have h3 := tbN_le (t i - t (i - 1) - g.2.1)
    split
    · exact ⟨by show g.1 + 104 ≤ _; omega, h2⟩
    · split
      · exact ⟨by show g.1 + _ + 1 ≤ _; omega, h2⟩
      · split
        · exact ⟨by show g.1 + _ + (13 + (64 - _ - _)) ≤ _; omega, by show 64 - _ - _ ≤ 64; omega⟩
        · exact ⟨by show g.1 + _ + (2 + g.2.2.2) ≤ _; omega, h2⟩
/-- places by series -/
def cpE (o : Nat → Nat) (z j : Nat) : Bool := decide (o j + 1 = z)
def cpL (o : Nat → Nat) (z j : Nat) : Bool := decide (o j < z)
def cpQ (o : Nat → Nat) (s j : Nat) : Bool := decide (o j = s)
theorem cnt_add {f g k : Nat → Bool} : ∀ {n : Nat}, (∀ j, j < n → (f j = true ↔ g j = true ∨ k j = true) ∧ ¬ (g j = true ∧ k j = true)) → cnt n f = cnt n g + cnt n k
  | 0, _ => rfl
  | n + 1, h => by
    have ih := cnt_add (n := n) (fun j hj => h j (by omega))
    obtain ⟨h1, h2⟩ := h n (by omega)
    cases hg : g n <;> cases hk : k n
    · rw [cnt_f hg, cnt_f hk, cnt_f (show f n = false by cases hf : f n with | false => rfl | true => have := h1.mp hf; simp [hg, hk] at this), ih]
    · rw [cnt_f hg, cnt_t hk, cnt_t (h1.mpr (Or.inr hk)), ih]; omega
    · rw [cnt_t hg, cnt_f hk, cnt_t (h1.mpr (Or.inl hg)), ih]; omega
    · exact absurd ⟨hg, hk⟩ h2
theorem cp_s (o : Nat → Nat) (n k : Nat) : cnt n (cpL o (k + 1)) = cnt n (cpL o k) + cnt n (cpE o (k + 1)) := cnt_add (fun j _ => by
  unfold cpL cpE
  constructor
  · constructor
    · intro h; have := of_decide_eq_true h; by_cases g : o j < k
      · exact Or.inl (decide_eq_true g)
      · exact Or.inr (decide_eq_true (by omega))
    · rintro (h | h) <;> have := of_decide_eq_true h <;> exact decide_eq_true (by omega)
  · rintro ⟨h1, h2⟩
    have := of_decide_eq_true h1
    have := of_decide_eq_true h2
    omega)
theorem cnt_0 {f : Nat → Bool} : ∀ {n : Nat}, (∀ j, j < n → f j = false) → cnt n f = 0
  | 0, _ => rfl
  | n + 1, h => by rw [cnt_f (h n (by omega)), cnt_0 (fun j hj => h j (by omega))]
theorem cnt_lt {f : Nat → Bool} {j n : Nat} (h : j < n) (hf : f j = true) : cnt j f < cnt n f := by
  have h1 := cnt_mono (f := f) (n := j + 1) (m := n) h
  rw [cnt_t hf] at h1
  omega
def posN (o : Nat → Nat) (n j : Nat) : Nat := cnt n (cpL o (o j)) + cnt j (cpQ o (o j))
theorem cpE_Q (o : Nat → Nat) (s n : Nat) : cnt n (cpE o (s + 1)) = cnt n (cpQ o s) := cnt_ext (fun k _ => by unfold cpE cpQ; simp)
theorem posN_lt {o : Nat → Nat} {n j : Nat} (h : j < n) : posN o n j < cnt n (cpL o (o j + 1)) := by
  have h1 := cnt_lt (f := cpQ o (o j)) h (decide_eq_true rfl)
  rw [cp_s, cpE_Q]
  unfold posN
  omega
theorem cpL_mono (o : Nat → Nat) (n : Nat) {a b : Nat} (h : a ≤ b) : cnt n (cpL o a) ≤ cnt n (cpL o b) := by
  obtain ⟨d, rfl⟩ : ∃ d, b = a + d := ⟨b - a, by omega⟩
  induction d with
  | zero => exact Nat.le_refl _
  | succ d ih => rw [show a + (d + 1) = a + d + 1 by omega, cp_s]; have := ih (by omega); omega
theorem posN_n {o : Nat → Nat} {n j : Nat} (h : j < n) : posN o n j < n := Nat.lt_of_lt_of_le (posN_lt h) (cnt_le _ _)
theorem posN_inj {o : Nat → Nat} {n j k : Nat} (hj : j < n) (hk : k < n) (h : posN o n j = posN o n k) : j = k := by
  rcases Nat.lt_trichotomy (o j) (o k) with g | g | g
  · have h1 := posN_lt (o := o) hj
    have h2 := cpL_mono o n (show o j + 1 ≤ o k by omega)
    unfold posN at h h1
    omega
  · unfold posN at h
    rw [g] at h
    rcases Nat.lt_trichotomy j k with q | q | q
    · have := cnt_lt (f := cpQ o (o k)) q (decide_eq_true g)
      omega
    · exact q
    · have := cnt_lt (f := cpQ o (o k)) q (decide_eq_true rfl)
      omega
  · have h1 := posN_lt (o := o) hk
    have h2 := cpL_mono o n (show o k + 1 ≤ o j by omega)
    unfold posN at h h1
    omega
/-- points laid by series -/
def laid {α : Type} (o : Nat → Nat) (n i : Nat) (f : Nat → α) (F : Nat → α) : Prop := ∀ j, j < i → F (posN o n j) = f j
theorem laid_s {α : Type} {o : Nat → Nat} {n i q : Nat} {f F : Nat → α} {y : α} (hi : i < n) (h : laid o n i f F) (hq : q = posN o n i) (hy : y = f i) : laid o n (i + 1) f (va_up F q y) := by
  intro j hj
  subst hq
  unfold va_up
  by_cases e : posN o n j = posN o n i
  · rw [if_pos e, posN_inj (by omega) hi e]
    exact hy
  · rw [if_neg e]
    refine h j (Nat.lt_of_le_of_ne (by omega) (fun z => e (by rw [z])))
/-- the places as they stand behind i points -/
def plcs (o : Nat → Nat) (n i w : Nat) (f : Nat → Nat) : Prop := ∀ s, s < w → f s = cnt n (cpL o s) + cnt i (cpQ o s)
theorem plcs_s {o : Nat → Nat} {n i w : Nat} {f : Nat → Nat} (h : plcs o n i w f) (hw : o i < w) : plcs o n (i + 1) w (va_up f (o i) (f (o i) + 1)) := by
  intro s hs
  unfold va_up
  by_cases e : s = o i
  · subst e
    rw [if_pos rfl, h _ hs, cnt_t (show cpQ o (o i) i = true from decide_eq_true rfl)]
    omega
  · rw [if_neg e, h _ hs, cnt_f (show cpQ o s i = false from decide_eq_false (fun z => e z.symm))]
theorem d_Integer_numberOfLeadingZeros_0 : decode prog_23_method_47_code 0 = .ok (.iload_n 0, 1) := by decide +kernel
theorem d_Integer_numberOfLeadingZeros_1 : decode prog_23_method_47_code 1 = .ok (.ifCond .gt 14, 3) := by decide +kernel
theorem d_Integer_numberOfLeadingZeros_15 : decode prog_23_method_47_code 15 = .ok (.bipush 31, 2) := by decide +kernel
theorem d_Integer_numberOfLeadingZeros_17 : decode prog_23_method_47_code 17 = .ok (.istore_n 1, 1) := by decide +kernel
theorem d_Integer_numberOfLeadingZeros_73 : decode prog_23_method_47_code 73 = .ok (.iload_n 1, 1) := by decide +kernel
theorem d_Integer_numberOfLeadingZeros_74 : decode prog_23_method_47_code 74 = .ok (.iload_n 0, 1) := by decide +kernel
theorem d_Integer_numberOfLeadingZeros_75 : decode prog_23_method_47_code 75 = .ok (.iconst 1, 1) := by decide +kernel
theorem d_Integer_numberOfLeadingZeros_76 : decode prog_23_method_47_code 76 = .ok (.iushr, 1) := by decide +kernel
theorem d_Integer_numberOfLeadingZeros_77 : decode prog_23_method_47_code 77 = .ok (.isub, 1) := by decide +kernel
theorem d_Integer_numberOfLeadingZeros_78 : decode prog_23_method_47_code 78 = .ok (.ireturn, 1) := by decide +kernel
theorem d_Integer_numberOfLeadingZeros_61 : decode prog_23_method_47_code 61 = .ok (.iload_n 0, 1) := by decide +kernel
theorem d_Integer_numberOfLeadingZeros_62 : decode prog_23_method_47_code 62 = .ok (.iconst 4, 1) := by decide +kernel
theorem d_Integer_numberOfLeadingZeros_63 : decode prog_23_method_47_code 63 = .ok (.if_icmp .lt 10, 3) := by decide +kernel
theorem d_Integer_numberOfLeadingZeros_66 : decode prog_23_method_47_code 66 = .ok (.iinc 1 (-2), 3) := by decide +kernel
theorem d_Integer_numberOfLeadingZeros_69 : decode prog_23_method_47_code 69 = .ok (.iload_n 0, 1) := by decide +kernel
theorem d_Integer_numberOfLeadingZeros_70 : decode prog_23_method_47_code 70 = .ok (.iconst 2, 1) := by decide +kernel
theorem d_Integer_numberOfLeadingZeros_71 : decode prog_23_method_47_code 71 = .ok (.iushr, 1) := by decide +kernel
theorem d_Integer_numberOfLeadingZeros_72 : decode prog_23_method_47_code 72 = .ok (.istore_n 0, 1) := by decide +kernel
theorem d_Integer_numberOfLeadingZeros_48 : decode prog_23_method_47_code 48 = .ok (.iload_n 0, 1) := by decide +kernel
theorem d_Integer_numberOfLeadingZeros_49 : decode prog_23_method_47_code 49 = .ok (.bipush 16, 2) := by decide +kernel
theorem d_Integer_numberOfLeadingZeros_51 : decode prog_23_method_47_code 51 = .ok (.if_icmp .lt 10, 3) := by decide +kernel
theorem d_Integer_numberOfLeadingZeros_54 : decode prog_23_method_47_code 54 = .ok (.iinc 1 (-4), 3) := by decide +kernel
theorem d_Integer_numberOfLeadingZeros_57 : decode prog_23_method_47_code 57 = .ok (.iload_n 0, 1) := by decide +kernel
theorem d_Integer_numberOfLeadingZeros_58 : decode prog_23_method_47_code 58 = .ok (.iconst 4, 1) := by decide +kernel
theorem d_Integer_numberOfLeadingZeros_59 : decode prog_23_method_47_code 59 = .ok (.iushr, 1) := by decide +kernel
theorem d_Integer_numberOfLeadingZeros_60 : decode prog_23_method_47_code 60 = .ok (.istore_n 0, 1) := by decide +kernel
theorem d_Integer_numberOfLeadingZeros_33 : decode prog_23_method_47_code 33 = .ok (.iload_n 0, 1) := by decide +kernel
theorem d_Integer_numberOfLeadingZeros_34 : decode prog_23_method_47_code 34 = .ok (.sipush 256, 3) := by decide +kernel
theorem d_Integer_numberOfLeadingZeros_37 : decode prog_23_method_47_code 37 = .ok (.if_icmp .lt 11, 3) := by decide +kernel
theorem d_Integer_numberOfLeadingZeros_40 : decode prog_23_method_47_code 40 = .ok (.iinc 1 (-8), 3) := by decide +kernel
theorem d_Integer_numberOfLeadingZeros_43 : decode prog_23_method_47_code 43 = .ok (.iload_n 0, 1) := by decide +kernel
theorem d_Integer_numberOfLeadingZeros_44 : decode prog_23_method_47_code 44 = .ok (.bipush 8, 2) := by decide +kernel
theorem d_Integer_numberOfLeadingZeros_46 : decode prog_23_method_47_code 46 = .ok (.iushr, 1) := by decide +kernel
theorem d_Integer_numberOfLeadingZeros_47 : decode prog_23_method_47_code 47 = .ok (.istore_n 0, 1) := by decide +kernel
theorem d_Integer_numberOfLeadingZeros_18 : decode prog_23_method_47_code 18 = .ok (.iload_n 0, 1) := by decide +kernel
theorem d_Integer_numberOfLeadingZeros_19 : decode prog_23_method_47_code 19 = .ok (.ldc_w 264, 3) := by decide +kernel
theorem d_Integer_numberOfLeadingZeros_22 : decode prog_23_method_47_code 22 = .ok (.if_icmp .lt 11, 3) := by decide +kernel
theorem d_Integer_numberOfLeadingZeros_25 : decode prog_23_method_47_code 25 = .ok (.iinc 1 (-16), 3) := by decide +kernel
theorem d_Integer_numberOfLeadingZeros_28 : decode prog_23_method_47_code 28 = .ok (.iload_n 0, 1) := by decide +kernel
theorem d_Integer_numberOfLeadingZeros_29 : decode prog_23_method_47_code 29 = .ok (.bipush 16, 2) := by decide +kernel
theorem d_Integer_numberOfLeadingZeros_31 : decode prog_23_method_47_code 31 = .ok (.iushr, 1) := by decide +kernel
theorem d_Integer_numberOfLeadingZeros_32 : decode prog_23_method_47_code 32 = .ok (.istore_n 0, 1) := by decide +kernel
theorem d_Integer_numberOfLeadingZeros_4 : decode prog_23_method_47_code 4 = .ok (.iload_n 0, 1) := by decide +kernel
theorem d_Integer_numberOfLeadingZeros_5 : decode prog_23_method_47_code 5 = .ok (.ifCond .ne 8, 3) := by decide +kernel
theorem d_Integer_numberOfLeadingZeros_13 : decode prog_23_method_47_code 13 = .ok (.iconst 0, 1) := by decide +kernel
theorem d_Integer_numberOfLeadingZeros_14 : decode prog_23_method_47_code 14 = .ok (.ireturn, 1) := by decide +kernel
theorem d_Integer_numberOfLeadingZeros_8 : decode prog_23_method_47_code 8 = .ok (.bipush 32, 2) := by decide +kernel
theorem d_Integer_numberOfLeadingZeros_10 : decode prog_23_method_47_code 10 = .ok (.goto 4, 3) := by decide +kernel
theorem w1196 : Cond.constant "java/lang/Integer" 264 65536 ∈ aW := aw_of (tb_6 (List.mem_of_getElem? (i := 31) rfl)) rfl
set_option maxHeartbeats 4000000 in
set_option maxRecDepth 100000 in
theorem v_nlzI (l : Launch) (D : va_G) (dA : Nat → ClassId) (sz : Nat) (v : Int32) : Met l ⟨"java/lang/Integer", "numberOfLeadingZeros", "(I)I"⟩ [Cond.code ⟨"java/lang/Integer", "numberOfLeadingZeros", "(I)I"⟩ prog_23_method_47_code 2 (some FieldType.int)] { frames := 1, cells := 0, slots := 0, locals := 0 } (pC D dA [.int v] ([]) sz) (va_Qi (fun (r9 : Int32) (u9 : Unit) => r9 = nlI v) (fun (u9 : Unit) t9 => bW D (va_A ([]) sz) ([]) t9) (va_A ([]) sz)) 0 0 (va_A ([]) sz) := by
  refine mkC (y := ⟨"java/lang/Integer", "numberOfLeadingZeros", "(I)I"⟩) (cc := prog_23_method_47_code) (maxL := 2) (av := [.int v]) (ws := []) (sz := sz) (Qc := fun A => va_Qi (fun (r9 : Int32) (u9 : Unit) => r9 = nlI v) (fun (u9 : Unit) t9 => bW D A ([]) t9) A) (by decide) (Nat.le_of_ble_eq_true rfl) ?_
  intro A p e s m below meth c ls hsz hB
  obtain ⟨hx, hb, hr, hml, hown, hin, hlk, hE, hK, hP, hD, hS, hA, hN, hl⟩ := hB
  have hown : s.vm.findClass "java/lang/Integer" = some m.cls := hown
  have hl : lv_has ls 2 [(0, .int v)] := hl
  obtain ⟨H, hH⟩ : ∃ z, z = s.heap := ⟨_, rfl⟩
  have hP : va_P D vwCl ([]) H := by rw [hH]; exact hP
  have hS : va_S A s.heap H [] := by rw [hH]; exact hS
  rw [← hH]
  refine lv_iload_n hx hb d_Integer_numberOfLeadingZeros_0 rfl (lv_at hl 0 rfl) ?_
  refine lv_if_gt hx hb d_Integer_numberOfLeadingZeros_1 (tgt := 15) rfl (fun g1 => ?_) (fun g1 => ?_)
  · have g1 := g1
    refine lv_bipush (v := 31) hx hb d_Integer_numberOfLeadingZeros_15 (by decide) ?_
    refine lv_istore_n hx hb d_Integer_numberOfLeadingZeros_17 rfl hl (by decide) rfl (fun ls hl => ?_)
    have hl : lv_has ls 2 [(1, .int 31), (0, .int v)] := hl
    have J33 : ∀ (a0 : Int32) (n0 : Int32) (e0 : (a0, n0) = nlS 65536 16 (-16) (v, 31)), ∀ (H : Heap) (locs : List Loc) (ls : Array Slot) (hP : va_P D vwCl ([]) H) (hD : va_D A ([])) (hS : va_S A s.heap H locs) (hl : lv_has ls 2 [(0, .int a0), (1, .int n0)]), W p l e ({ frames := 1, cells := 0, slots := 0, locals := 0 } : Room) s m ([.int v] : List Value).toArray below meth c H locs 0 0 (MQ below (va_Qi (fun (r9 : Int32) (u9 : Unit) => r9 = nlI v) (fun (u9 : Unit) t9 => bW D A ([]) t9) A) ([.int v] : List Value).toArray s 0 0 A) (F0 m 33 ls []) := by
      intro a0 n0 e0 H locs ls hP hD hS hl
      have J48 : ∀ (a1 : Int32) (n1 : Int32) (e1 : (a1, n1) = nlS 256 8 (-8) (a0, n0)), ∀ (H : Heap) (locs : List Loc) (ls : Array Slot) (hP : va_P D vwCl ([]) H) (hD : va_D A ([])) (hS : va_S A s.heap H locs) (hl : lv_has ls 2 [(0, .int a1), (1, .int n1)]), W p l e ({ frames := 1, cells := 0, slots := 0, locals := 0 } : Room) s m ([.int v] : List Value).toArray below meth c H locs 0 0 (MQ below (va_Qi (fun (r9 : Int32) (u9 : Unit) => r9 = nlI v) (fun (u9 : Unit) t9 => bW D A ([]) t9) A) ([.int v] : List Value).toArray s 0 0 A) (F0 m 48 ls []) := by
        intro a1 n1 e1 H locs ls hP hD hS hl
        have J61 : ∀ (a2 : Int32) (n2 : Int32) (e2 : (a2, n2) = nlS 16 4 (-4) (a1, n1)), ∀ (H : Heap) (locs : List Loc) (ls : Array Slot) (hP : va_P D vwCl ([]) H) (hD : va_D A ([])) (hS : va_S A s.heap H locs) (hl : lv_has ls 2 [(0, .int a2), (1, .int n2)]), W p l e ({ frames := 1, cells := 0, slots := 0, locals := 0 } : Room) s m ([.int v] : List Value).toArray below meth c H locs 0 0 (MQ below (va_Qi (fun (r9 : Int32) (u9 : Unit) => r9 = nlI v) (fun (u9 : Unit) t9 => bW D A ([]) t9) A) ([.int v] : List Value).toArray s 0 0 A) (F0 m 61 ls []) := by
          intro a2 n2 e2 H locs ls hP hD hS hl
          have J73 : ∀ (a3 : Int32) (n3 : Int32) (e3 : (a3, n3) = nlS 4 2 (-2) (a2, n2)), ∀ (H : Heap) (locs : List Loc) (ls : Array Slot) (hP : va_P D vwCl ([]) H) (hD : va_D A ([])) (hS : va_S A s.heap H locs) (hl : lv_has ls 2 [(0, .int a3), (1, .int n3)]), W p l e ({ frames := 1, cells := 0, slots := 0, locals := 0 } : Room) s m ([.int v] : List Value).toArray below meth c H locs 0 0 (MQ below (va_Qi (fun (r9 : Int32) (u9 : Unit) => r9 = nlI v) (fun (u9 : Unit) t9 => bW D A ([]) t9) A) ([.int v] : List Value).toArray s 0 0 A) (F0 m 73 ls []) := by
            intro a3 n3 e3 H locs ls hP hD hS hl
            refine lv_iload_n hx hb d_Integer_numberOfLeadingZeros_73 rfl (lv_at hl 1 rfl) ?_
            refine lv_iload_n hx hb d_Integer_numberOfLeadingZeros_74 rfl (lv_at hl 0 rfl) ?_
            refine lv_iconst (v := 1) hx hb d_Integer_numberOfLeadingZeros_75 (by decide) ?_
            refine lv_iushr (v := ushI a3 1) hx hb d_Integer_numberOfLeadingZeros_76 rfl ?_
            refine lv_isub hx hb d_Integer_numberOfLeadingZeros_77 ?_
            exact rfI hx hb hr hlk hS () (by unfold nlI nl4; rw [if_pos g1, ← e0, ← e1, ← e2, ← e3]) hP hD (Nat.le_of_ble_eq_true rfl) (Nat.le_of_ble_eq_true rfl) d_Integer_numberOfLeadingZeros_78
          refine lv_iload_n hx hb d_Integer_numberOfLeadingZeros_61 rfl (lv_at hl 0 rfl) ?_
          refine lv_iconst (v := 4) hx hb d_Integer_numberOfLeadingZeros_62 (by decide) ?_
          refine lv_icmp_lt hx hb d_Integer_numberOfLeadingZeros_63 (tgt := 73) rfl (fun g2 => ?_) (fun g2 => ?_)
          · have g2 := g2
            exact J73 a2 n2 (by unfold nlS; rw [if_pos g2]) H _ ls hP hD hS (lv_sub hl [0, 1] rfl)
          · have g2 := g2
            refine lv_iinc (k := 1) (v := n2 + (-2)) hx hb d_Integer_numberOfLeadingZeros_66 hl rfl (by rfl) (by decide) rfl (fun ls hl => ?_)
            have hl : lv_has ls 2 [(1, .int (n2 + (-2))), (0, .int a2)] := hl
            refine lv_iload_n hx hb d_Integer_numberOfLeadingZeros_69 rfl (lv_at hl 1 rfl) ?_
            refine lv_iconst (v := 2) hx hb d_Integer_numberOfLeadingZeros_70 (by decide) ?_
            refine lv_iushr (v := ushI a2 2) hx hb d_Integer_numberOfLeadingZeros_71 rfl ?_
            refine lv_istore_n hx hb d_Integer_numberOfLeadingZeros_72 rfl hl (by decide) rfl (fun ls hl => ?_)
            have hl : lv_has ls 2 [(0, .int (ushI a2 2)), (1, .int (n2 + (-2)))] := hl
            exact J73 (ushI a2 2) (n2 + (-2)) (by unfold nlS; rw [if_neg g2]) H _ ls hP hD hS (lv_sub hl [0, 1] rfl)
        refine lv_iload_n hx hb d_Integer_numberOfLeadingZeros_48 rfl (lv_at hl 0 rfl) ?_
        refine lv_bipush (v := 16) hx hb d_Integer_numberOfLeadingZeros_49 (by decide) ?_
        refine lv_icmp_lt hx hb d_Integer_numberOfLeadingZeros_51 (tgt := 61) rfl (fun g3 => ?_) (fun g3 => ?_)
        · have g3 := g3
          exact J61 a1 n1 (by unfold nlS; rw [if_pos g3]) H _ ls hP hD hS (lv_sub hl [0, 1] rfl)
        · have g3 := g3
          refine lv_iinc (k := 1) (v := n1 + (-4)) hx hb d_Integer_numberOfLeadingZeros_54 hl rfl (by rfl) (by decide) rfl (fun ls hl => ?_)
          have hl : lv_has ls 2 [(1, .int (n1 + (-4))), (0, .int a1)] := hl
          refine lv_iload_n hx hb d_Integer_numberOfLeadingZeros_57 rfl (lv_at hl 1 rfl) ?_
          refine lv_iconst (v := 4) hx hb d_Integer_numberOfLeadingZeros_58 (by decide) ?_
          refine lv_iushr (v := ushI a1 4) hx hb d_Integer_numberOfLeadingZeros_59 rfl ?_
          refine lv_istore_n hx hb d_Integer_numberOfLeadingZeros_60 rfl hl (by decide) rfl (fun ls hl => ?_)
          have hl : lv_has ls 2 [(0, .int (ushI a1 4)), (1, .int (n1 + (-4)))] := hl
          exact J61 (ushI a1 4) (n1 + (-4)) (by unfold nlS; rw [if_neg g3]) H _ ls hP hD hS (lv_sub hl [0, 1] rfl)
      refine lv_iload_n hx hb d_Integer_numberOfLeadingZeros_33 rfl (lv_at hl 0 rfl) ?_
      refine lv_sipush (v := 256) hx hb d_Integer_numberOfLeadingZeros_34 (by decide) ?_
      refine lv_icmp_lt hx hb d_Integer_numberOfLeadingZeros_37 (tgt := 48) rfl (fun g4 => ?_) (fun g4 => ?_)
      · have g4 := g4
        exact J48 a0 n0 (by unfold nlS; rw [if_pos g4]) H _ ls hP hD hS (lv_sub hl [0, 1] rfl)
      · have g4 := g4
        refine lv_iinc (k := 1) (v := n0 + (-8)) hx hb d_Integer_numberOfLeadingZeros_40 hl rfl (by rfl) (by decide) rfl (fun ls hl => ?_)
        have hl : lv_has ls 2 [(1, .int (n0 + (-8))), (0, .int a0)] := hl
        refine lv_iload_n hx hb d_Integer_numberOfLeadingZeros_43 rfl (lv_at hl 1 rfl) ?_
        refine lv_bipush (v := 8) hx hb d_Integer_numberOfLeadingZeros_44 (by decide) ?_
        refine lv_iushr (v := ushI a0 8) hx hb d_Integer_numberOfLeadingZeros_46 rfl ?_
        refine lv_istore_n hx hb d_Integer_numberOfLeadingZeros_47 rfl hl (by decide) rfl (fun ls hl => ?_)
        have hl : lv_has ls 2 [(0, .int (ushI a0 8)), (1, .int (n0 + (-8)))] := hl
        exact J48 (ushI a0 8) (n0 + (-8)) (by unfold nlS; rw [if_neg g4]) H _ ls hP hD hS (lv_sub hl [0, 1] rfl)
    refine lv_iload_n hx hb d_Integer_numberOfLeadingZeros_18 rfl (lv_at hl 1 rfl) ?_
    refine lv_ldcw (v := 65536) hx hb hown (hE.t w1196 rfl) d_Integer_numberOfLeadingZeros_19 ?_
    refine lv_icmp_lt hx hb d_Integer_numberOfLeadingZeros_22 (tgt := 33) rfl (fun g5 => ?_) (fun g5 => ?_)
    · have g5 := g5
      exact J33 v 31 (by unfold nlS; rw [if_pos g5]) H _ ls hP hD hS (lv_sub hl [1, 0] rfl)
    · have g5 := g5
      refine lv_iinc (k := 0) (v := 15) hx hb d_Integer_numberOfLeadingZeros_25 hl rfl (by decide) (by decide) rfl (fun ls hl => ?_)
      have hl : lv_has ls 2 [(1, .int 15), (0, .int v)] := hl
      refine lv_iload_n hx hb d_Integer_numberOfLeadingZeros_28 rfl (lv_at hl 1 rfl) ?_
      refine lv_bipush (v := 16) hx hb d_Integer_numberOfLeadingZeros_29 (by decide) ?_
      refine lv_iushr (v := ushI v 16) hx hb d_Integer_numberOfLeadingZeros_31 rfl ?_
      refine lv_istore_n hx hb d_Integer_numberOfLeadingZeros_32 rfl hl (by decide) rfl (fun ls hl => ?_)
      have hl : lv_has ls 2 [(0, .int (ushI v 16)), (1, .int 15)] := hl
      exact J33 (ushI v 16) 15 (by unfold nlS; rw [if_neg g5]; exact congrArg (Prod.mk _) (show (15 : Int32) = 31 + (-16) by decide)) H _ ls hP hD hS (lv_sub hl [0, 1] rfl)
  · have g1 := g1
    refine lv_iload_n hx hb d_Integer_numberOfLeadingZeros_4 rfl (lv_at hl 0 rfl) ?_
    refine lv_if_ne hx hb d_Integer_numberOfLeadingZeros_5 (tgt := 13) rfl (fun g6 => ?_) (fun g6 => ?_)
    · have g6 := g6
      refine lv_iconst (v := 0) hx hb d_Integer_numberOfLeadingZeros_13 (by decide) ?_
      exact rfI hx hb hr hlk hS () (by unfold nlI; rw [if_neg g1, if_neg g6]) hP hD (Nat.le_of_ble_eq_true rfl) (Nat.le_of_ble_eq_true rfl) d_Integer_numberOfLeadingZeros_14
    · have g6 := g6
      refine lv_bipush (v := 32) hx hb d_Integer_numberOfLeadingZeros_8 (by decide) ?_
      refine lv_goto hx hb d_Integer_numberOfLeadingZeros_10 (tgt := 14) rfl ?_
      exact rfI hx hb hr hlk hS () (by unfold nlI; rw [if_neg g1, if_pos g6]) hP hD (Nat.le_of_ble_eq_true rfl) (Nat.le_of_ble_eq_true rfl) d_Integer_numberOfLeadingZeros_14
theorem d_Long_numberOfLeadingZeros_0 : decode prog_25_method_48_code 0 = .ok (.lload_n 0, 1) := by decide +kernel
theorem d_Long_numberOfLeadingZeros_1 : decode prog_25_method_48_code 1 = .ok (.bipush 32, 2) := by decide +kernel
theorem d_Long_numberOfLeadingZeros_3 : decode prog_25_method_48_code 3 = .ok (.lushr, 1) := by decide +kernel
theorem d_Long_numberOfLeadingZeros_4 : decode prog_25_method_48_code 4 = .ok (.l2i, 1) := by decide +kernel
theorem d_Long_numberOfLeadingZeros_5 : decode prog_25_method_48_code 5 = .ok (.istore_n 2, 1) := by decide +kernel
theorem d_Long_numberOfLeadingZeros_6 : decode prog_25_method_48_code 6 = .ok (.iload_n 2, 1) := by decide +kernel
theorem d_Long_numberOfLeadingZeros_7 : decode prog_25_method_48_code 7 = .ok (.ifCond .ne 14, 3) := by decide +kernel
theorem d_Long_numberOfLeadingZeros_21 : decode prog_25_method_48_code 21 = .ok (.iload_n 2, 1) := by decide +kernel
theorem d_Long_numberOfLeadingZeros_22 : decode prog_25_method_48_code 22 = .ok (.invokestatic 308, 3) := by decide +kernel
theorem d_Long_numberOfLeadingZeros_25 : decode prog_25_method_48_code 25 = .ok (.ireturn, 1) := by decide +kernel
theorem d_Long_numberOfLeadingZeros_10 : decode prog_25_method_48_code 10 = .ok (.bipush 32, 2) := by decide +kernel
theorem d_Long_numberOfLeadingZeros_12 : decode prog_25_method_48_code 12 = .ok (.lload_n 0, 1) := by decide +kernel
theorem d_Long_numberOfLeadingZeros_13 : decode prog_25_method_48_code 13 = .ok (.l2i, 1) := by decide +kernel
theorem d_Long_numberOfLeadingZeros_14 : decode prog_25_method_48_code 14 = .ok (.invokestatic 308, 3) := by decide +kernel
theorem d_Long_numberOfLeadingZeros_17 : decode prog_25_method_48_code 17 = .ok (.iadd, 1) := by decide +kernel
theorem d_Long_numberOfLeadingZeros_18 : decode prog_25_method_48_code 18 = .ok (.goto 7, 3) := by decide +kernel
theorem w1197 : Cond.methodLink "java/lang/Long" 308 ⟨"java/lang/Integer", "numberOfLeadingZeros", "(I)I"⟩ ∈ aW := aw_of (tb_6 (List.mem_of_getElem? (i := 28) rfl)) rfl
theorem w1198 : Cond.initialized "java/lang/Integer" ∈ aW := aw_of (tb_1 (List.mem_of_getElem? (i := 28) rfl)) rfl
theorem w1199 : Cond.code ⟨"java/lang/Integer", "numberOfLeadingZeros", "(I)I"⟩ prog_23_method_47_code 2 (some FieldType.int) ∈ aW := aw_of (tb_6 (List.mem_of_getElem? (i := 30) rfl)) rfl
theorem w1200 : Cond.static ⟨"java/lang/Integer", "numberOfLeadingZeros", "(I)I"⟩ ∈ aW := aw_of (tb_6 (List.mem_of_getElem? (i := 29) rfl)) rfl
set_option maxHeartbeats 4000000 in
set_option maxRecDepth 100000 in
theorem v_nlzL (l : Launch) (D : va_G) (dA : Nat → ClassId) (sz : Nat) (v : Int64) : Met l ⟨"java/lang/Long", "numberOfLeadingZeros", "(J)I"⟩ [Cond.code ⟨"java/lang/Long", "numberOfLeadingZeros", "(J)I"⟩ prog_25_method_48_code 3 (some FieldType.int)] { frames := 2, cells := 0, slots := 0, locals := 21 } (pC D dA [.long v] ([]) sz) (va_Qi (fun (r9 : Int32) (u9 : Unit) => r9 = nI (clzL v)) (fun (u9 : Unit) t9 => bW D (va_A ([]) sz) ([]) t9) (va_A ([]) sz)) 0 0 (va_A ([]) sz) := by
  refine mkC (y := ⟨"java/lang/Long", "numberOfLeadingZeros", "(J)I"⟩) (cc := prog_25_method_48_code) (maxL := 3) (av := [.long v]) (ws := []) (sz := sz) (Qc := fun A => va_Qi (fun (r9 : Int32) (u9 : Unit) => r9 = nI (clzL v)) (fun (u9 : Unit) t9 => bW D A ([]) t9) A) (by decide) (Nat.le_of_ble_eq_true rfl) ?_
  intro A p e s m below meth c ls hsz hB
  obtain ⟨hx, hb, hr, hml, hown, hin, hlk, hE, hK, hP, hD, hS, hA, hN, hl⟩ := hB
  have hown : s.vm.findClass "java/lang/Long" = some m.cls := hown
  have hl : lv_has ls 3 [(0, .long v)] := hl
  obtain ⟨H, hH⟩ : ∃ z, z = s.heap := ⟨_, rfl⟩
  have hP : va_P D vwCl ([]) H := by rw [hH]; exact hP
  have hS : va_S A s.heap H [] := by rw [hH]; exact hS
  rw [← hH]
  refine lv_lload_n hx hb d_Long_numberOfLeadingZeros_0 rfl (lv_at hl 0 rfl) ?_
  refine lv_bipush (v := 32) hx hb d_Long_numberOfLeadingZeros_1 (by decide) ?_
  refine lv_lushr (v := ushL v 32) hx hb d_Long_numberOfLeadingZeros_3 rfl ?_
  refine lv_l2i hx hb d_Long_numberOfLeadingZeros_4 rfl ?_
  refine lv_istore_n hx hb d_Long_numberOfLeadingZeros_5 rfl hl (by decide) rfl (fun ls hl => ?_)
  have hl : lv_has ls 3 [(2, .int ((ushL v 32).toInt32)), (0, .long v)] := hl
  refine lv_iload_n hx hb d_Long_numberOfLeadingZeros_6 rfl (lv_at hl 0 rfl) ?_
  refine lv_if_ne hx hb d_Long_numberOfLeadingZeros_7 (tgt := 21) rfl (fun g1 => ?_) (fun g1 => ?_)
  · have g1 := g1
    refine lv_iload_n hx hb d_Long_numberOfLeadingZeros_21 rfl (lv_at hl 0 rfl) ?_
    have hPc := hP.sub (ws' := []) [] rfl
    have hDc := hD.sub (ws' := []) [] (by decide) rfl
    refine jpI (rnS (As := [.int ((ushL v 32).toInt32)]) (rest := []) hx hb hml hown hE hK (hN _ _ hS) hPc hDc (v_nlzI l D dA H.size ((ushL v 32).toInt32)) w1199 w1197 w1200 w1198 rfl rfl ⟨⟨by decide, by decide⟩, rfl⟩ ⟨(Nat.le_of_ble_eq_true rfl), (Nat.le_of_ble_eq_true rfl)⟩ rfl hl.1 rfl (Nat.le_of_ble_eq_true rfl) d_Long_numberOfLeadingZeros_22 ⟨(Nat.le_of_ble_eq_true rfl), (Nat.le_of_ble_eq_true rfl)⟩) hP hD hS hA (fun r2 u9 H locs hp9 hP hD hS => ?_)
    have hP : va_P D vwCl ([]) H := hP
    have hD : va_D A ([]) := hD
    replace hp9 : nlI ((ushL v 32).toInt32) = r2 := Eq.symm hp9
    subst hp9
    exact rfI hx hb hr hlk hS () (by rw [← nlL_U]; unfold nlL; rw [if_neg g1]) hP hD (Nat.le_of_ble_eq_true rfl) (Nat.le_of_ble_eq_true rfl) d_Long_numberOfLeadingZeros_25
  · have g1 := g1
    refine lv_bipush (v := 32) hx hb d_Long_numberOfLeadingZeros_10 (by decide) ?_
    refine lv_lload_n hx hb d_Long_numberOfLeadingZeros_12 rfl (lv_at hl 1 rfl) ?_
    refine lv_l2i hx hb d_Long_numberOfLeadingZeros_13 rfl ?_
    have hPc := hP.sub (ws' := []) [] rfl
    have hDc := hD.sub (ws' := []) [] (by decide) rfl
    refine jpI (rnS (As := [.int v.toInt32]) (rest := [.int 32]) hx hb hml hown hE hK (hN _ _ hS) hPc hDc (v_nlzI l D dA H.size v.toInt32) w1199 w1197 w1200 w1198 rfl rfl ⟨⟨by decide, by decide⟩, rfl⟩ ⟨(Nat.le_of_ble_eq_true rfl), (Nat.le_of_ble_eq_true rfl)⟩ rfl hl.1 rfl (Nat.le_of_ble_eq_true rfl) d_Long_numberOfLeadingZeros_14 ⟨(Nat.le_of_ble_eq_true rfl), (Nat.le_of_ble_eq_true rfl)⟩) hP hD hS hA (fun r4 u9 H locs hp9 hP hD hS => ?_)
    have hP : va_P D vwCl ([]) H := hP
    have hD : va_D A ([]) := hD
    replace hp9 : nlI v.toInt32 = r4 := Eq.symm hp9
    subst hp9
    refine lv_iadd hx hb d_Long_numberOfLeadingZeros_17 ?_
    refine lv_goto hx hb d_Long_numberOfLeadingZeros_18 (tgt := 25) rfl ?_
    exact rfI hx hb hr hlk hS () (by rw [← nlL_U]; unfold nlL; rw [if_pos g1]) hP hD (Nat.le_of_ble_eq_true rfl) (Nat.le_of_ble_eq_true rfl) d_Long_numberOfLeadingZeros_25
theorem d_Integer_numberOfTrailingZeros_0 : decode prog_23_method_48_code 0 = .ok (.iload_n 0, 1) := by decide +kernel
theorem d_Integer_numberOfTrailingZeros_1 : decode prog_23_method_48_code 1 = .ok (.iconst (-1), 1) := by decide +kernel
theorem d_Integer_numberOfTrailingZeros_2 : decode prog_23_method_48_code 2 = .ok (.ixor, 1) := by decide +kernel
theorem d_Integer_numberOfTrailingZeros_3 : decode prog_23_method_48_code 3 = .ok (.iload_n 0, 1) := by decide +kernel
theorem d_Integer_numberOfTrailingZeros_4 : decode prog_23_method_48_code 4 = .ok (.iconst 1, 1) := by decide +kernel
theorem d_Integer_numberOfTrailingZeros_5 : decode prog_23_method_48_code 5 = .ok (.isub, 1) := by decide +kernel
theorem d_Integer_numberOfTrailingZeros_6 : decode prog_23_method_48_code 6 = .ok (.iand, 1) := by decide +kernel
theorem d_Integer_numberOfTrailingZeros_7 : decode prog_23_method_48_code 7 = .ok (.istore_n 0, 1) := by decide +kernel
theorem d_Integer_numberOfTrailingZeros_8 : decode prog_23_method_48_code 8 = .ok (.iload_n 0, 1) := by decide +kernel
theorem d_Integer_numberOfTrailingZeros_9 : decode prog_23_method_48_code 9 = .ok (.ifCond .gt 8, 3) := by decide +kernel
theorem d_Integer_numberOfTrailingZeros_17 : decode prog_23_method_48_code 17 = .ok (.iconst 1, 1) := by decide +kernel
theorem d_Integer_numberOfTrailingZeros_18 : decode prog_23_method_48_code 18 = .ok (.istore_n 1, 1) := by decide +kernel
theorem d_Integer_numberOfTrailingZeros_74 : decode prog_23_method_48_code 74 = .ok (.iload_n 1, 1) := by decide +kernel
theorem d_Integer_numberOfTrailingZeros_75 : decode prog_23_method_48_code 75 = .ok (.iload_n 0, 1) := by decide +kernel
theorem d_Integer_numberOfTrailingZeros_76 : decode prog_23_method_48_code 76 = .ok (.iconst 1, 1) := by decide +kernel
theorem d_Integer_numberOfTrailingZeros_77 : decode prog_23_method_48_code 77 = .ok (.iushr, 1) := by decide +kernel
theorem d_Integer_numberOfTrailingZeros_78 : decode prog_23_method_48_code 78 = .ok (.iadd, 1) := by decide +kernel
theorem d_Integer_numberOfTrailingZeros_79 : decode prog_23_method_48_code 79 = .ok (.ireturn, 1) := by decide +kernel
theorem d_Integer_numberOfTrailingZeros_62 : decode prog_23_method_48_code 62 = .ok (.iload_n 0, 1) := by decide +kernel
theorem d_Integer_numberOfTrailingZeros_63 : decode prog_23_method_48_code 63 = .ok (.iconst 4, 1) := by decide +kernel
theorem d_Integer_numberOfTrailingZeros_64 : decode prog_23_method_48_code 64 = .ok (.if_icmp .le 10, 3) := by decide +kernel
theorem d_Integer_numberOfTrailingZeros_67 : decode prog_23_method_48_code 67 = .ok (.iinc 1 2, 3) := by decide +kernel
theorem d_Integer_numberOfTrailingZeros_70 : decode prog_23_method_48_code 70 = .ok (.iload_n 0, 1) := by decide +kernel
theorem d_Integer_numberOfTrailingZeros_71 : decode prog_23_method_48_code 71 = .ok (.iconst 2, 1) := by decide +kernel
theorem d_Integer_numberOfTrailingZeros_72 : decode prog_23_method_48_code 72 = .ok (.iushr, 1) := by decide +kernel
theorem d_Integer_numberOfTrailingZeros_73 : decode prog_23_method_48_code 73 = .ok (.istore_n 0, 1) := by decide +kernel
theorem d_Integer_numberOfTrailingZeros_49 : decode prog_23_method_48_code 49 = .ok (.iload_n 0, 1) := by decide +kernel
theorem d_Integer_numberOfTrailingZeros_50 : decode prog_23_method_48_code 50 = .ok (.bipush 16, 2) := by decide +kernel
theorem d_Integer_numberOfTrailingZeros_52 : decode prog_23_method_48_code 52 = .ok (.if_icmp .le 10, 3) := by decide +kernel
theorem d_Integer_numberOfTrailingZeros_55 : decode prog_23_method_48_code 55 = .ok (.iinc 1 4, 3) := by decide +kernel
theorem d_Integer_numberOfTrailingZeros_58 : decode prog_23_method_48_code 58 = .ok (.iload_n 0, 1) := by decide +kernel
theorem d_Integer_numberOfTrailingZeros_59 : decode prog_23_method_48_code 59 = .ok (.iconst 4, 1) := by decide +kernel
theorem d_Integer_numberOfTrailingZeros_60 : decode prog_23_method_48_code 60 = .ok (.iushr, 1) := by decide +kernel
theorem d_Integer_numberOfTrailingZeros_61 : decode prog_23_method_48_code 61 = .ok (.istore_n 0, 1) := by decide +kernel
theorem d_Integer_numberOfTrailingZeros_34 : decode prog_23_method_48_code 34 = .ok (.iload_n 0, 1) := by decide +kernel
theorem d_Integer_numberOfTrailingZeros_35 : decode prog_23_method_48_code 35 = .ok (.sipush 256, 3) := by decide +kernel
theorem d_Integer_numberOfTrailingZeros_38 : decode prog_23_method_48_code 38 = .ok (.if_icmp .le 11, 3) := by decide +kernel
theorem d_Integer_numberOfTrailingZeros_41 : decode prog_23_method_48_code 41 = .ok (.iinc 1 8, 3) := by decide +kernel
theorem d_Integer_numberOfTrailingZeros_44 : decode prog_23_method_48_code 44 = .ok (.iload_n 0, 1) := by decide +kernel
theorem d_Integer_numberOfTrailingZeros_45 : decode prog_23_method_48_code 45 = .ok (.bipush 8, 2) := by decide +kernel
theorem d_Integer_numberOfTrailingZeros_47 : decode prog_23_method_48_code 47 = .ok (.iushr, 1) := by decide +kernel
theorem d_Integer_numberOfTrailingZeros_48 : decode prog_23_method_48_code 48 = .ok (.istore_n 0, 1) := by decide +kernel
theorem d_Integer_numberOfTrailingZeros_19 : decode prog_23_method_48_code 19 = .ok (.iload_n 0, 1) := by decide +kernel
theorem d_Integer_numberOfTrailingZeros_20 : decode prog_23_method_48_code 20 = .ok (.ldc_w 264, 3) := by decide +kernel
theorem d_Integer_numberOfTrailingZeros_23 : decode prog_23_method_48_code 23 = .ok (.if_icmp .le 11, 3) := by decide +kernel
theorem d_Integer_numberOfTrailingZeros_26 : decode prog_23_method_48_code 26 = .ok (.iinc 1 16, 3) := by decide +kernel
theorem d_Integer_numberOfTrailingZeros_29 : decode prog_23_method_48_code 29 = .ok (.iload_n 0, 1) := by decide +kernel
theorem d_Integer_numberOfTrailingZeros_30 : decode prog_23_method_48_code 30 = .ok (.bipush 16, 2) := by decide +kernel
theorem d_Integer_numberOfTrailingZeros_32 : decode prog_23_method_48_code 32 = .ok (.iushr, 1) := by decide +kernel
theorem d_Integer_numberOfTrailingZeros_33 : decode prog_23_method_48_code 33 = .ok (.istore_n 0, 1) := by decide +kernel
theorem d_Integer_numberOfTrailingZeros_12 : decode prog_23_method_48_code 12 = .ok (.iload_n 0, 1) := by decide +kernel
theorem d_Integer_numberOfTrailingZeros_13 : decode prog_23_method_48_code 13 = .ok (.bipush 32, 2) := by decide +kernel
theorem d_Integer_numberOfTrailingZeros_15 : decode prog_23_method_48_code 15 = .ok (.iand, 1) := by decide +kernel
theorem d_Integer_numberOfTrailingZeros_16 : decode prog_23_method_48_code 16 = .ok (.ireturn, 1) := by decide +kernel
set_option maxHeartbeats 4000000 in
set_option maxRecDepth 100000 in
theorem v_ntzI (l : Launch) (D : va_G) (dA : Nat → ClassId) (sz : Nat) (v : Int32) : Met l ⟨"java/lang/Integer", "numberOfTrailingZeros", "(I)I"⟩ [Cond.code ⟨"java/lang/Integer", "numberOfTrailingZeros", "(I)I"⟩ prog_23_method_48_code 2 (some FieldType.int)] { frames := 1, cells := 0, slots := 0, locals := 0 } (pC D dA [.int v] ([]) sz) (va_Qi (fun (r9 : Int32) (u9 : Unit) => r9 = ntI v) (fun (u9 : Unit) t9 => bW D (va_A ([]) sz) ([]) t9) (va_A ([]) sz)) 0 0 (va_A ([]) sz) := by
  refine mkC (y := ⟨"java/lang/Integer", "numberOfTrailingZeros", "(I)I"⟩) (cc := prog_23_method_48_code) (maxL := 2) (av := [.int v]) (ws := []) (sz := sz) (Qc := fun A => va_Qi (fun (r9 : Int32) (u9 : Unit) => r9 = ntI v) (fun (u9 : Unit) t9 => bW D A ([]) t9) A) (by decide) (Nat.le_of_ble_eq_true rfl) ?_
  intro A p e s m below meth c ls hsz hB
  obtain ⟨hx, hb, hr, hml, hown, hin, hlk, hE, hK, hP, hD, hS, hA, hN, hl⟩ := hB
  have hown : s.vm.findClass "java/lang/Integer" = some m.cls := hown
  have hl : lv_has ls 2 [(0, .int v)] := hl
  obtain ⟨H, hH⟩ : ∃ z, z = s.heap := ⟨_, rfl⟩
  have hP : va_P D vwCl ([]) H := by rw [hH]; exact hP
  have hS : va_S A s.heap H [] := by rw [hH]; exact hS
  rw [← hH]
  refine lv_iload_n hx hb d_Integer_numberOfTrailingZeros_0 rfl (lv_at hl 0 rfl) ?_
  refine lv_iconst (v := (-1)) hx hb d_Integer_numberOfTrailingZeros_1 (by decide) ?_
  refine lv_ixor hx hb d_Integer_numberOfTrailingZeros_2 ?_
  refine lv_iload_n hx hb d_Integer_numberOfTrailingZeros_3 rfl (lv_at hl 0 rfl) ?_
  refine lv_iconst (v := 1) hx hb d_Integer_numberOfTrailingZeros_4 (by decide) ?_
  refine lv_isub hx hb d_Integer_numberOfTrailingZeros_5 ?_
  refine lv_iand hx hb d_Integer_numberOfTrailingZeros_6 ?_
  refine lv_istore_n hx hb d_Integer_numberOfTrailingZeros_7 rfl hl (by decide) rfl (fun ls hl => ?_)
  have hl : lv_has ls 2 [(0, .int ((v ^^^ (-1)) &&& (v - 1)))] := hl
  have J8 : ∀ (j0 : Int32) (ej : j0 = (v ^^^ (-1)) &&& (v - 1)), ∀ (H : Heap) (locs : List Loc) (ls : Array Slot) (hP : va_P D vwCl ([]) H) (hD : va_D A ([])) (hS : va_S A s.heap H locs) (hl : lv_has ls 2 [(0, .int j0)]), W p l e ({ frames := 1, cells := 0, slots := 0, locals := 0 } : Room) s m ([.int v] : List Value).toArray below meth c H locs 0 0 (MQ below (va_Qi (fun (r9 : Int32) (u9 : Unit) => r9 = ntI v) (fun (u9 : Unit) t9 => bW D A ([]) t9) A) ([.int v] : List Value).toArray s 0 0 A) (F0 m 8 ls []) := by
    intro j0 ej H locs ls hP hD hS hl
    refine lv_iload_n hx hb d_Integer_numberOfTrailingZeros_8 rfl (lv_at hl 0 rfl) ?_
    refine lv_if_gt hx hb d_Integer_numberOfTrailingZeros_9 (tgt := 17) rfl (fun g1 => ?_) (fun g1 => ?_)
    · have g1 := g1
      refine lv_iconst (v := 1) hx hb d_Integer_numberOfTrailingZeros_17 (by decide) ?_
      refine lv_istore_n hx hb d_Integer_numberOfTrailingZeros_18 rfl hl (by decide) rfl (fun ls hl => ?_)
      have hl : lv_has ls 2 [(1, .int 1), (0, .int j0)] := hl
      have J34 : ∀ (a0 : Int32) (n0 : Int32) (e0 : (a0, n0) = ntS 65536 16 16 (j0, 1)), ∀ (H : Heap) (locs : List Loc) (ls : Array Slot) (hP : va_P D vwCl ([]) H) (hD : va_D A ([])) (hS : va_S A s.heap H locs) (hl : lv_has ls 2 [(0, .int a0), (1, .int n0)]), W p l e ({ frames := 1, cells := 0, slots := 0, locals := 0 } : Room) s m ([.int v] : List Value).toArray below meth c H locs 0 0 (MQ below (va_Qi (fun (r9 : Int32) (u9 : Unit) => r9 = ntI v) (fun (u9 : Unit) t9 => bW D A ([]) t9) A) ([.int v] : List Value).toArray s 0 0 A) (F0 m 34 ls []) := by
        intro a0 n0 e0 H locs ls hP hD hS hl
        have J49 : ∀ (a1 : Int32) (n1 : Int32) (e1 : (a1, n1) = ntS 256 8 8 (a0, n0)), ∀ (H : Heap) (locs : List Loc) (ls : Array Slot) (hP : va_P D vwCl ([]) H) (hD : va_D A ([])) (hS : va_S A s.heap H locs) (hl : lv_has ls 2 [(0, .int a1), (1, .int n1)]), W p l e ({ frames := 1, cells := 0, slots := 0, locals := 0 } : Room) s m ([.int v] : List Value).toArray below meth c H locs 0 0 (MQ below (va_Qi (fun (r9 : Int32) (u9 : Unit) => r9 = ntI v) (fun (u9 : Unit) t9 => bW D A ([]) t9) A) ([.int v] : List Value).toArray s 0 0 A) (F0 m 49 ls []) := by
          intro a1 n1 e1 H locs ls hP hD hS hl
          have J62 : ∀ (a2 : Int32) (n2 : Int32) (e2 : (a2, n2) = ntS 16 4 4 (a1, n1)), ∀ (H : Heap) (locs : List Loc) (ls : Array Slot) (hP : va_P D vwCl ([]) H) (hD : va_D A ([])) (hS : va_S A s.heap H locs) (hl : lv_has ls 2 [(0, .int a2), (1, .int n2)]), W p l e ({ frames := 1, cells := 0, slots := 0, locals := 0 } : Room) s m ([.int v] : List Value).toArray below meth c H locs 0 0 (MQ below (va_Qi (fun (r9 : Int32) (u9 : Unit) => r9 = ntI v) (fun (u9 : Unit) t9 => bW D A ([]) t9) A) ([.int v] : List Value).toArray s 0 0 A) (F0 m 62 ls []) := by
            intro a2 n2 e2 H locs ls hP hD hS hl
            have J74 : ∀ (a3 : Int32) (n3 : Int32) (e3 : (a3, n3) = ntS 4 2 2 (a2, n2)), ∀ (H : Heap) (locs : List Loc) (ls : Array Slot) (hP : va_P D vwCl ([]) H) (hD : va_D A ([])) (hS : va_S A s.heap H locs) (hl : lv_has ls 2 [(0, .int a3), (1, .int n3)]), W p l e ({ frames := 1, cells := 0, slots := 0, locals := 0 } : Room) s m ([.int v] : List Value).toArray below meth c H locs 0 0 (MQ below (va_Qi (fun (r9 : Int32) (u9 : Unit) => r9 = ntI v) (fun (u9 : Unit) t9 => bW D A ([]) t9) A) ([.int v] : List Value).toArray s 0 0 A) (F0 m 74 ls []) := by
              intro a3 n3 e3 H locs ls hP hD hS hl
              refine lv_iload_n hx hb d_Integer_numberOfTrailingZeros_74 rfl (lv_at hl 1 rfl) ?_
              refine lv_iload_n hx hb d_Integer_numberOfTrailingZeros_75 rfl (lv_at hl 0 rfl) ?_
              refine lv_iconst (v := 1) hx hb d_Integer_numberOfTrailingZeros_76 (by decide) ?_
              refine lv_iushr (v := ushI a3 1) hx hb d_Integer_numberOfTrailingZeros_77 rfl ?_
              refine lv_iadd hx hb d_Integer_numberOfTrailingZeros_78 ?_
              exact rfI hx hb hr hlk hS () (by unfold ntI ntB nt4; rw [← ej, if_neg (Int32.not_le.mpr g1), ← e0, ← e1, ← e2, ← e3]) hP hD (Nat.le_of_ble_eq_true rfl) (Nat.le_of_ble_eq_true rfl) d_Integer_numberOfTrailingZeros_79
            refine lv_iload_n hx hb d_Integer_numberOfTrailingZeros_62 rfl (lv_at hl 0 rfl) ?_
            refine lv_iconst (v := 4) hx hb d_Integer_numberOfTrailingZeros_63 (by decide) ?_
            refine lv_icmp_le hx hb d_Integer_numberOfTrailingZeros_64 (tgt := 74) rfl (fun g2 => ?_) (fun g2 => ?_)
            · have g2 := g2
              exact J74 a2 n2 (by unfold ntS; rw [if_pos g2]) H _ ls hP hD hS (lv_sub hl [0, 1] rfl)
            · have g2 := g2
              refine lv_iinc (k := 1) (v := n2 + 2) hx hb d_Integer_numberOfTrailingZeros_67 hl rfl (by rfl) (by decide) rfl (fun ls hl => ?_)
              have hl : lv_has ls 2 [(1, .int (n2 + 2)), (0, .int a2)] := hl
              refine lv_iload_n hx hb d_Integer_numberOfTrailingZeros_70 rfl (lv_at hl 1 rfl) ?_
              refine lv_iconst (v := 2) hx hb d_Integer_numberOfTrailingZeros_71 (by decide) ?_
              refine lv_iushr (v := ushI a2 2) hx hb d_Integer_numberOfTrailingZeros_72 rfl ?_
              refine lv_istore_n hx hb d_Integer_numberOfTrailingZeros_73 rfl hl (by decide) rfl (fun ls hl => ?_)
              have hl : lv_has ls 2 [(0, .int (ushI a2 2)), (1, .int (n2 + 2))] := hl
              exact J74 (ushI a2 2) (n2 + 2) (by unfold ntS; rw [if_neg g2]) H _ ls hP hD hS (lv_sub hl [0, 1] rfl)
          refine lv_iload_n hx hb d_Integer_numberOfTrailingZeros_49 rfl (lv_at hl 0 rfl) ?_
          refine lv_bipush (v := 16) hx hb d_Integer_numberOfTrailingZeros_50 (by decide) ?_
          refine lv_icmp_le hx hb d_Integer_numberOfTrailingZeros_52 (tgt := 62) rfl (fun g3 => ?_) (fun g3 => ?_)
          · have g3 := g3
            exact J62 a1 n1 (by unfold ntS; rw [if_pos g3]) H _ ls hP hD hS (lv_sub hl [0, 1] rfl)
          · have g3 := g3
            refine lv_iinc (k := 1) (v := n1 + 4) hx hb d_Integer_numberOfTrailingZeros_55 hl rfl (by rfl) (by decide) rfl (fun ls hl => ?_)
            have hl : lv_has ls 2 [(1, .int (n1 + 4)), (0, .int a1)] := hl
            refine lv_iload_n hx hb d_Integer_numberOfTrailingZeros_58 rfl (lv_at hl 1 rfl) ?_
            refine lv_iconst (v := 4) hx hb d_Integer_numberOfTrailingZeros_59 (by decide) ?_
            refine lv_iushr (v := ushI a1 4) hx hb d_Integer_numberOfTrailingZeros_60 rfl ?_
            refine lv_istore_n hx hb d_Integer_numberOfTrailingZeros_61 rfl hl (by decide) rfl (fun ls hl => ?_)
            have hl : lv_has ls 2 [(0, .int (ushI a1 4)), (1, .int (n1 + 4))] := hl
            exact J62 (ushI a1 4) (n1 + 4) (by unfold ntS; rw [if_neg g3]) H _ ls hP hD hS (lv_sub hl [0, 1] rfl)
        refine lv_iload_n hx hb d_Integer_numberOfTrailingZeros_34 rfl (lv_at hl 0 rfl) ?_
        refine lv_sipush (v := 256) hx hb d_Integer_numberOfTrailingZeros_35 (by decide) ?_
        refine lv_icmp_le hx hb d_Integer_numberOfTrailingZeros_38 (tgt := 49) rfl (fun g4 => ?_) (fun g4 => ?_)
        · have g4 := g4
          exact J49 a0 n0 (by unfold ntS; rw [if_pos g4]) H _ ls hP hD hS (lv_sub hl [0, 1] rfl)
        · have g4 := g4
          refine lv_iinc (k := 1) (v := n0 + 8) hx hb d_Integer_numberOfTrailingZeros_41 hl rfl (by rfl) (by decide) rfl (fun ls hl => ?_)
          have hl : lv_has ls 2 [(1, .int (n0 + 8)), (0, .int a0)] := hl
          refine lv_iload_n hx hb d_Integer_numberOfTrailingZeros_44 rfl (lv_at hl 1 rfl) ?_
          refine lv_bipush (v := 8) hx hb d_Integer_numberOfTrailingZeros_45 (by decide) ?_
          refine lv_iushr (v := ushI a0 8) hx hb d_Integer_numberOfTrailingZeros_47 rfl ?_
          refine lv_istore_n hx hb d_Integer_numberOfTrailingZeros_48 rfl hl (by decide) rfl (fun ls hl => ?_)
          have hl : lv_has ls 2 [(0, .int (ushI a0 8)), (1, .int (n0 + 8))] := hl
          exact J49 (ushI a0 8) (n0 + 8) (by unfold ntS; rw [if_neg g4]) H _ ls hP hD hS (lv_sub hl [0, 1] rfl)
      refine lv_iload_n hx hb d_Integer_numberOfTrailingZeros_19 rfl (lv_at hl 1 rfl) ?_
      refine lv_ldcw (v := 65536) hx hb hown (hE.t w1196 rfl) d_Integer_numberOfTrailingZeros_20 ?_
      refine lv_icmp_le hx hb d_Integer_numberOfTrailingZeros_23 (tgt := 34) rfl (fun g5 => ?_) (fun g5 => ?_)
      · have g5 := g5
        exact J34 j0 1 (by unfold ntS; rw [if_pos g5]) H _ ls hP hD hS (lv_sub hl [1, 0] rfl)
      · have g5 := g5
        refine lv_iinc (k := 0) (v := 17) hx hb d_Integer_numberOfTrailingZeros_26 hl rfl (by decide) (by decide) rfl (fun ls hl => ?_)
        have hl : lv_has ls 2 [(1, .int 17), (0, .int j0)] := hl
        refine lv_iload_n hx hb d_Integer_numberOfTrailingZeros_29 rfl (lv_at hl 1 rfl) ?_
        refine lv_bipush (v := 16) hx hb d_Integer_numberOfTrailingZeros_30 (by decide) ?_
        refine lv_iushr (v := ushI j0 16) hx hb d_Integer_numberOfTrailingZeros_32 rfl ?_
        refine lv_istore_n hx hb d_Integer_numberOfTrailingZeros_33 rfl hl (by decide) rfl (fun ls hl => ?_)
        have hl : lv_has ls 2 [(0, .int (ushI j0 16)), (1, .int 17)] := hl
        exact J34 (ushI j0 16) 17 (by unfold ntS; rw [if_neg g5]; exact congrArg (Prod.mk _) (show (17 : Int32) = 1 + 16 by decide)) H _ ls hP hD hS (lv_sub hl [0, 1] rfl)
    · have g1 := g1
      refine lv_iload_n hx hb d_Integer_numberOfTrailingZeros_12 rfl (lv_at hl 0 rfl) ?_
      refine lv_bipush (v := 32) hx hb d_Integer_numberOfTrailingZeros_13 (by decide) ?_
      refine lv_iand hx hb d_Integer_numberOfTrailingZeros_15 ?_
      exact rfI hx hb hr hlk hS () (by unfold ntI ntB; rw [← ej, if_pos (Int32.not_lt.mp g1)]) hP hD (Nat.le_of_ble_eq_true rfl) (Nat.le_of_ble_eq_true rfl) d_Integer_numberOfTrailingZeros_16
  exact J8 ((v ^^^ (-1)) &&& (v - 1)) rfl H _ ls hP hD hS (lv_sub hl [0] rfl)
theorem d_Long_numberOfTrailingZeros_0 : decode prog_25_method_49_code 0 = .ok (.lload_n 0, 1) := by decide +kernel
theorem d_Long_numberOfTrailingZeros_1 : decode prog_25_method_49_code 1 = .ok (.l2i, 1) := by decide +kernel
theorem d_Long_numberOfTrailingZeros_2 : decode prog_25_method_49_code 2 = .ok (.istore_n 2, 1) := by decide +kernel
theorem d_Long_numberOfTrailingZeros_3 : decode prog_25_method_49_code 3 = .ok (.iload_n 2, 1) := by decide +kernel
theorem d_Long_numberOfTrailingZeros_4 : decode prog_25_method_49_code 4 = .ok (.ifCond .ne 17, 3) := by decide +kernel
theorem d_Long_numberOfTrailingZeros_21 : decode prog_25_method_49_code 21 = .ok (.iload_n 2, 1) := by decide +kernel
theorem d_Long_numberOfTrailingZeros_22 : decode prog_25_method_49_code 22 = .ok (.invokestatic 311, 3) := by decide +kernel
theorem d_Long_numberOfTrailingZeros_25 : decode prog_25_method_49_code 25 = .ok (.ireturn, 1) := by decide +kernel
theorem d_Long_numberOfTrailingZeros_7 : decode prog_25_method_49_code 7 = .ok (.bipush 32, 2) := by decide +kernel
theorem d_Long_numberOfTrailingZeros_9 : decode prog_25_method_49_code 9 = .ok (.lload_n 0, 1) := by decide +kernel
theorem d_Long_numberOfTrailingZeros_10 : decode prog_25_method_49_code 10 = .ok (.bipush 32, 2) := by decide +kernel
theorem d_Long_numberOfTrailingZeros_12 : decode prog_25_method_49_code 12 = .ok (.lushr, 1) := by decide +kernel
theorem d_Long_numberOfTrailingZeros_13 : decode prog_25_method_49_code 13 = .ok (.l2i, 1) := by decide +kernel
theorem d_Long_numberOfTrailingZeros_14 : decode prog_25_method_49_code 14 = .ok (.invokestatic 311, 3) := by decide +kernel
theorem d_Long_numberOfTrailingZeros_17 : decode prog_25_method_49_code 17 = .ok (.iadd, 1) := by decide +kernel
theorem d_Long_numberOfTrailingZeros_18 : decode prog_25_method_49_code 18 = .ok (.goto 7, 3) := by decide +kernel
theorem w1201 : Cond.methodLink "java/lang/Long" 311 ⟨"java/lang/Integer", "numberOfTrailingZeros", "(I)I"⟩ ∈ aW := aw_of (tb_6 (List.mem_of_getElem? (i := 36) rfl)) rfl
theorem w1202 : Cond.code ⟨"java/lang/Integer", "numberOfTrailingZeros", "(I)I"⟩ prog_23_method_48_code 2 (some FieldType.int) ∈ aW := aw_of (tb_6 (List.mem_of_getElem? (i := 38) rfl)) rfl
theorem w1203 : Cond.static ⟨"java/lang/Integer", "numberOfTrailingZeros", "(I)I"⟩ ∈ aW := aw_of (tb_6 (List.mem_of_getElem? (i := 37) rfl)) rfl
set_option maxHeartbeats 4000000 in
set_option maxRecDepth 100000 in
theorem v_ntzL (l : Launch) (D : va_G) (dA : Nat → ClassId) (sz : Nat) (v : Int64) : Met l ⟨"java/lang/Long", "numberOfTrailingZeros", "(J)I"⟩ [Cond.code ⟨"java/lang/Long", "numberOfTrailingZeros", "(J)I"⟩ prog_25_method_49_code 3 (some FieldType.int)] { frames := 2, cells := 0, slots := 0, locals := 21 } (pC D dA [.long v] ([]) sz) (va_Qi (fun (r9 : Int32) (u9 : Unit) => r9 = nI (ctzL v)) (fun (u9 : Unit) t9 => bW D (va_A ([]) sz) ([]) t9) (va_A ([]) sz)) 0 0 (va_A ([]) sz) := by
  refine mkC (y := ⟨"java/lang/Long", "numberOfTrailingZeros", "(J)I"⟩) (cc := prog_25_method_49_code) (maxL := 3) (av := [.long v]) (ws := []) (sz := sz) (Qc := fun A => va_Qi (fun (r9 : Int32) (u9 : Unit) => r9 = nI (ctzL v)) (fun (u9 : Unit) t9 => bW D A ([]) t9) A) (by decide) (Nat.le_of_ble_eq_true rfl) ?_
  intro A p e s m below meth c ls hsz hB
  obtain ⟨hx, hb, hr, hml, hown, hin, hlk, hE, hK, hP, hD, hS, hA, hN, hl⟩ := hB
  have hown : s.vm.findClass "java/lang/Long" = some m.cls := hown
  have hl : lv_has ls 3 [(0, .long v)] := hl
  obtain ⟨H, hH⟩ : ∃ z, z = s.heap := ⟨_, rfl⟩
  have hP : va_P D vwCl ([]) H := by rw [hH]; exact hP
  have hS : va_S A s.heap H [] := by rw [hH]; exact hS
  rw [← hH]
  refine lv_lload_n hx hb d_Long_numberOfTrailingZeros_0 rfl (lv_at hl 0 rfl) ?_
  refine lv_l2i hx hb d_Long_numberOfTrailingZeros_1 rfl ?_
  refine lv_istore_n hx hb d_Long_numberOfTrailingZeros_2 rfl hl (by decide) rfl (fun ls hl => ?_)
  have hl : lv_has ls 3 [(2, .int v.toInt32), (0, .long v)] := hl
  refine lv_iload_n hx hb d_Long_numberOfTrailingZeros_3 rfl (lv_at hl 0 rfl) ?_
  refine lv_if_ne hx hb d_Long_numberOfTrailingZeros_4 (tgt := 21) rfl (fun g1 => ?_) (fun g1 => ?_)
  · have g1 := g1
    refine lv_iload_n hx hb d_Long_numberOfTrailingZeros_21 rfl (lv_at hl 0 rfl) ?_
    have hPc := hP.sub (ws' := []) [] rfl
    have hDc := hD.sub (ws' := []) [] (by decide) rfl
    refine jpI (rnS (As := [.int v.toInt32]) (rest := []) hx hb hml hown hE hK (hN _ _ hS) hPc hDc (v_ntzI l D dA H.size v.toInt32) w1202 w1201 w1203 w1198 rfl rfl ⟨⟨by decide, by decide⟩, rfl⟩ ⟨(Nat.le_of_ble_eq_true rfl), (Nat.le_of_ble_eq_true rfl)⟩ rfl hl.1 rfl (Nat.le_of_ble_eq_true rfl) d_Long_numberOfTrailingZeros_22 ⟨(Nat.le_of_ble_eq_true rfl), (Nat.le_of_ble_eq_true rfl)⟩) hP hD hS hA (fun r2 u9 H locs hp9 hP hD hS => ?_)
    have hP : va_P D vwCl ([]) H := hP
    have hD : va_D A ([]) := hD
    replace hp9 : ntI v.toInt32 = r2 := Eq.symm hp9
    subst hp9
    exact rfI hx hb hr hlk hS () (by rw [← ntL_U]; unfold ntL; rw [if_neg g1]) hP hD (Nat.le_of_ble_eq_true rfl) (Nat.le_of_ble_eq_true rfl) d_Long_numberOfTrailingZeros_25
  · have g1 := g1
    refine lv_bipush (v := 32) hx hb d_Long_numberOfTrailingZeros_7 (by decide) ?_
    refine lv_lload_n hx hb d_Long_numberOfTrailingZeros_9 rfl (lv_at hl 1 rfl) ?_
    refine lv_bipush (v := 32) hx hb d_Long_numberOfTrailingZeros_10 (by decide) ?_
    refine lv_lushr (v := ushL v 32) hx hb d_Long_numberOfTrailingZeros_12 rfl ?_
    refine lv_l2i hx hb d_Long_numberOfTrailingZeros_13 rfl ?_
    have hPc := hP.sub (ws' := []) [] rfl
    have hDc := hD.sub (ws' := []) [] (by decide) rfl
    refine jpI (rnS (As := [.int ((ushL v 32).toInt32)]) (rest := [.int 32]) hx hb hml hown hE hK (hN _ _ hS) hPc hDc (v_ntzI l D dA H.size ((ushL v 32).toInt32)) w1202 w1201 w1203 w1198 rfl rfl ⟨⟨by decide, by decide⟩, rfl⟩ ⟨(Nat.le_of_ble_eq_true rfl), (Nat.le_of_ble_eq_true rfl)⟩ rfl hl.1 rfl (Nat.le_of_ble_eq_true rfl) d_Long_numberOfTrailingZeros_14 ⟨(Nat.le_of_ble_eq_true rfl), (Nat.le_of_ble_eq_true rfl)⟩) hP hD hS hA (fun r4 u9 H locs hp9 hP hD hS => ?_)
    have hP : va_P D vwCl ([]) H := hP
    have hD : va_D A ([]) := hD
    replace hp9 : ntI ((ushL v 32).toInt32) = r4 := Eq.symm hp9
    subst hp9
    refine lv_iadd hx hb d_Long_numberOfTrailingZeros_17 ?_
    refine lv_goto hx hb d_Long_numberOfTrailingZeros_18 (tgt := 25) rfl ?_
    exact rfI hx hb hr hlk hS () (by rw [← ntL_U]; unfold ntL; rw [if_pos g1]) hP hD (Nat.le_of_ble_eq_true rfl) (Nat.le_of_ble_eq_true rfl) d_Long_numberOfTrailingZeros_25
theorem d_C_turnBits_0 : decode prog_4_method_6_code 0 = .ok (.lload_n 0, 1) := by decide +kernel
theorem d_C_turnBits_1 : decode prog_4_method_6_code 1 = .ok (.lconst 0, 1) := by decide +kernel
theorem d_C_turnBits_2 : decode prog_4_method_6_code 2 = .ok (.lcmp, 1) := by decide +kernel
theorem d_C_turnBits_3 : decode prog_4_method_6_code 3 = .ok (.ifCond .ne 5, 3) := by decide +kernel
theorem d_C_turnBits_8 : decode prog_4_method_6_code 8 = .ok (.lload_n 0, 1) := by decide +kernel
theorem d_C_turnBits_9 : decode prog_4_method_6_code 9 = .ok (.ldc2_w 85, 3) := by decide +kernel
theorem d_C_turnBits_12 : decode prog_4_method_6_code 12 = .ok (.lcmp, 1) := by decide +kernel
theorem d_C_turnBits_13 : decode prog_4_method_6_code 13 = .ok (.ifCond .lt 14, 3) := by decide +kernel
theorem d_C_turnBits_27 : decode prog_4_method_6_code 27 = .ok (.lload_n 0, 1) := by decide +kernel
theorem d_C_turnBits_28 : decode prog_4_method_6_code 28 = .ok (.ldc2_w 89, 3) := by decide +kernel
theorem d_C_turnBits_31 : decode prog_4_method_6_code 31 = .ok (.lcmp, 1) := by decide +kernel
theorem d_C_turnBits_32 : decode prog_4_method_6_code 32 = .ok (.ifCond .lt 14, 3) := by decide +kernel
theorem d_C_turnBits_46 : decode prog_4_method_6_code 46 = .ok (.lload_n 0, 1) := by decide +kernel
theorem d_C_turnBits_47 : decode prog_4_method_6_code 47 = .ok (.ldc2_w 93, 3) := by decide +kernel
theorem d_C_turnBits_50 : decode prog_4_method_6_code 50 = .ok (.lcmp, 1) := by decide +kernel
theorem d_C_turnBits_51 : decode prog_4_method_6_code 51 = .ok (.ifCond .lt 16, 3) := by decide +kernel
theorem d_C_turnBits_67 : decode prog_4_method_6_code 67 = .ok (.bipush 45, 2) := by decide +kernel
theorem d_C_turnBits_69 : decode prog_4_method_6_code 69 = .ok (.ireturn, 1) := by decide +kernel
theorem d_C_turnBits_54 : decode prog_4_method_6_code 54 = .ok (.lload_n 0, 1) := by decide +kernel
theorem d_C_turnBits_55 : decode prog_4_method_6_code 55 = .ok (.ldc2_w 95, 3) := by decide +kernel
theorem d_C_turnBits_58 : decode prog_4_method_6_code 58 = .ok (.lcmp, 1) := by decide +kernel
theorem d_C_turnBits_59 : decode prog_4_method_6_code 59 = .ok (.ifCond .gt 8, 3) := by decide +kernel
theorem d_C_turnBits_62 : decode prog_4_method_6_code 62 = .ok (.bipush 17, 2) := by decide +kernel
theorem d_C_turnBits_64 : decode prog_4_method_6_code 64 = .ok (.goto 5, 3) := by decide +kernel
theorem d_C_turnBits_35 : decode prog_4_method_6_code 35 = .ok (.lload_n 0, 1) := by decide +kernel
theorem d_C_turnBits_36 : decode prog_4_method_6_code 36 = .ok (.ldc2_w 91, 3) := by decide +kernel
theorem d_C_turnBits_39 : decode prog_4_method_6_code 39 = .ok (.lcmp, 1) := by decide +kernel
theorem d_C_turnBits_40 : decode prog_4_method_6_code 40 = .ok (.ifCond .gt 6, 3) := by decide +kernel
theorem d_C_turnBits_43 : decode prog_4_method_6_code 43 = .ok (.bipush 13, 2) := by decide +kernel
theorem d_C_turnBits_45 : decode prog_4_method_6_code 45 = .ok (.ireturn, 1) := by decide +kernel
theorem d_C_turnBits_16 : decode prog_4_method_6_code 16 = .ok (.lload_n 0, 1) := by decide +kernel
theorem d_C_turnBits_17 : decode prog_4_method_6_code 17 = .ok (.ldc2_w 87, 3) := by decide +kernel
theorem d_C_turnBits_20 : decode prog_4_method_6_code 20 = .ok (.lcmp, 1) := by decide +kernel
theorem d_C_turnBits_21 : decode prog_4_method_6_code 21 = .ok (.ifCond .gt 6, 3) := by decide +kernel
theorem d_C_turnBits_24 : decode prog_4_method_6_code 24 = .ok (.bipush 9, 2) := by decide +kernel
theorem d_C_turnBits_26 : decode prog_4_method_6_code 26 = .ok (.ireturn, 1) := by decide +kernel
theorem d_C_turnBits_6 : decode prog_4_method_6_code 6 = .ok (.iconst 1, 1) := by decide +kernel
theorem d_C_turnBits_7 : decode prog_4_method_6_code 7 = .ok (.ireturn, 1) := by decide +kernel
theorem w1204 : Cond.constantLong "SeriesVault$Parcel" 85 (-64) ∈ aW := aw_of (tb_6 (List.mem_of_getElem? (i := 19) rfl)) rfl
theorem w1205 : Cond.constantLong "SeriesVault$Parcel" 89 (-512) ∈ aW := aw_of (tb_6 (List.mem_of_getElem? (i := 21) rfl)) rfl
theorem w1206 : Cond.constantLong "SeriesVault$Parcel" 93 (-4096) ∈ aW := aw_of (tb_6 (List.mem_of_getElem? (i := 23) rfl)) rfl
theorem w1207 : Cond.constantLong "SeriesVault$Parcel" 95 4095 ∈ aW := aw_of (tb_6 (List.mem_of_getElem? (i := 24) rfl)) rfl
theorem w1208 : Cond.constantLong "SeriesVault$Parcel" 91 511 ∈ aW := aw_of (tb_6 (List.mem_of_getElem? (i := 22) rfl)) rfl
theorem w1209 : Cond.constantLong "SeriesVault$Parcel" 87 63 ∈ aW := aw_of (tb_6 (List.mem_of_getElem? (i := 20) rfl)) rfl
set_option maxHeartbeats 4000000 in
set_option maxRecDepth 100000 in
theorem v_turnBits (l : Launch) (D : va_G) (dA : Nat → ClassId) (sz : Nat) (v : Int64) : Met l ⟨"SeriesVault$Parcel", "turnBits", "(J)I"⟩ [Cond.code ⟨"SeriesVault$Parcel", "turnBits", "(J)I"⟩ prog_4_method_6_code 2 (some FieldType.int)] { frames := 1, cells := 0, slots := 0, locals := 0 } (pC D dA [.long v] ([]) sz) (va_Qi (fun (r9 : Int32) (u9 : Unit) => r9 = nI (tbN v)) (fun (u9 : Unit) t9 => bW D (va_A ([]) sz) ([]) t9) (va_A ([]) sz)) 0 0 (va_A ([]) sz) := by
  refine mkC (y := ⟨"SeriesVault$Parcel", "turnBits", "(J)I"⟩) (cc := prog_4_method_6_code) (maxL := 2) (av := [.long v]) (ws := []) (sz := sz) (Qc := fun A => va_Qi (fun (r9 : Int32) (u9 : Unit) => r9 = nI (tbN v)) (fun (u9 : Unit) t9 => bW D A ([]) t9) A) (by decide) (Nat.le_of_ble_eq_true rfl) ?_
  intro A p e s m below meth c ls hsz hB
  obtain ⟨hx, hb, hr, hml, hown, hin, hlk, hE, hK, hP, hD, hS, hA, hN, hl⟩ := hB
  have hown : s.vm.findClass "SeriesVault$Parcel" = some m.cls := hown
  have hl : lv_has ls 2 [(0, .long v)] := hl
  obtain ⟨H, hH⟩ : ∃ z, z = s.heap := ⟨_, rfl⟩
  have hP : va_P D vwCl ([]) H := by rw [hH]; exact hP
  have hS : va_S A s.heap H [] := by rw [hH]; exact hS
  rw [← hH]
  refine lv_lload_n hx hb d_C_turnBits_0 rfl (lv_at hl 0 rfl) ?_
  refine lv_lconst (v := 0) hx hb d_C_turnBits_1 (by decide) ?_
  refine W.lcmp hx hb d_C_turnBits_2 ?_
  refine lv_if_ne hx hb d_C_turnBits_3 (tgt := 8) rfl (fun g1 => ?_) (fun g1 => ?_)
  · have g1 := mt (lg_cmp_eq _ _).mpr g1
    refine lv_lload_n hx hb d_C_turnBits_8 rfl (lv_at hl 0 rfl) ?_
    refine lv_ldc2 (v := (-64)) hx hb hown (hE.t w1204 rfl) d_C_turnBits_9 ?_
    refine W.lcmp hx hb d_C_turnBits_12 ?_
    refine lv_if_lt hx hb d_C_turnBits_13 (tgt := 27) rfl (fun g2 => ?_) (fun g2 => ?_)
    · have g2 := (lg_cmp_lt _ _).mp g2
      refine lv_lload_n hx hb d_C_turnBits_27 rfl (lv_at hl 0 rfl) ?_
      refine lv_ldc2 (v := (-512)) hx hb hown (hE.t w1205 rfl) d_C_turnBits_28 ?_
      refine W.lcmp hx hb d_C_turnBits_31 ?_
      refine lv_if_lt hx hb d_C_turnBits_32 (tgt := 46) rfl (fun g3 => ?_) (fun g3 => ?_)
      · have g3 := (lg_cmp_lt _ _).mp g3
        refine lv_lload_n hx hb d_C_turnBits_46 rfl (lv_at hl 0 rfl) ?_
        refine lv_ldc2 (v := (-4096)) hx hb hown (hE.t w1206 rfl) d_C_turnBits_47 ?_
        refine W.lcmp hx hb d_C_turnBits_50 ?_
        refine lv_if_lt hx hb d_C_turnBits_51 (tgt := 67) rfl (fun g4 => ?_) (fun g4 => ?_)
        · have g4 := (lg_cmp_lt _ _).mp g4
          refine lv_bipush (v := 45) hx hb d_C_turnBits_67 (by decide) ?_
          exact rfI hx hb hr hlk hS () (by rw [← tbI_N]; simp [tbI, *]) hP hD (Nat.le_of_ble_eq_true rfl) (Nat.le_of_ble_eq_true rfl) d_C_turnBits_69
        · have g4 := mt (lg_cmp_lt _ _).mpr g4
          refine lv_lload_n hx hb d_C_turnBits_54 rfl (lv_at hl 0 rfl) ?_
          refine lv_ldc2 (v := 4095) hx hb hown (hE.t w1207 rfl) d_C_turnBits_55 ?_
          refine W.lcmp hx hb d_C_turnBits_58 ?_
          refine lv_if_gt hx hb d_C_turnBits_59 (tgt := 67) rfl (fun g5 => ?_) (fun g5 => ?_)
          · have g5 := (lg_cmp_gt _ _).mp g5
            refine lv_bipush (v := 45) hx hb d_C_turnBits_67 (by decide) ?_
            exact rfI hx hb hr hlk hS () (by rw [← tbI_N]; simp [tbI, *]) hP hD (Nat.le_of_ble_eq_true rfl) (Nat.le_of_ble_eq_true rfl) d_C_turnBits_69
          · have g5 := mt (lg_cmp_gt _ _).mpr g5
            refine lv_bipush (v := 17) hx hb d_C_turnBits_62 (by decide) ?_
            refine lv_goto hx hb d_C_turnBits_64 (tgt := 69) rfl ?_
            exact rfI hx hb hr hlk hS () (by rw [← tbI_N]; simp [tbI, *]) hP hD (Nat.le_of_ble_eq_true rfl) (Nat.le_of_ble_eq_true rfl) d_C_turnBits_69
      · have g3 := mt (lg_cmp_lt _ _).mpr g3
        refine lv_lload_n hx hb d_C_turnBits_35 rfl (lv_at hl 0 rfl) ?_
        refine lv_ldc2 (v := 511) hx hb hown (hE.t w1208 rfl) d_C_turnBits_36 ?_
        refine W.lcmp hx hb d_C_turnBits_39 ?_
        refine lv_if_gt hx hb d_C_turnBits_40 (tgt := 46) rfl (fun g6 => ?_) (fun g6 => ?_)
        · have g6 := (lg_cmp_gt _ _).mp g6
          refine lv_lload_n hx hb d_C_turnBits_46 rfl (lv_at hl 0 rfl) ?_
          refine lv_ldc2 (v := (-4096)) hx hb hown (hE.t w1206 rfl) d_C_turnBits_47 ?_
          refine W.lcmp hx hb d_C_turnBits_50 ?_
          refine lv_if_lt hx hb d_C_turnBits_51 (tgt := 67) rfl (fun g7 => ?_) (fun g7 => ?_)
          · have g7 := (lg_cmp_lt _ _).mp g7
            refine lv_bipush (v := 45) hx hb d_C_turnBits_67 (by decide) ?_
            exact rfI hx hb hr hlk hS () (by rw [← tbI_N]; simp [tbI, *]) hP hD (Nat.le_of_ble_eq_true rfl) (Nat.le_of_ble_eq_true rfl) d_C_turnBits_69
          · have g7 := mt (lg_cmp_lt _ _).mpr g7
            refine lv_lload_n hx hb d_C_turnBits_54 rfl (lv_at hl 0 rfl) ?_
            refine lv_ldc2 (v := 4095) hx hb hown (hE.t w1207 rfl) d_C_turnBits_55 ?_
            refine W.lcmp hx hb d_C_turnBits_58 ?_
            refine lv_if_gt hx hb d_C_turnBits_59 (tgt := 67) rfl (fun g8 => ?_) (fun g8 => ?_)
            · have g8 := (lg_cmp_gt _ _).mp g8
              refine lv_bipush (v := 45) hx hb d_C_turnBits_67 (by decide) ?_
              exact rfI hx hb hr hlk hS () (by rw [← tbI_N]; simp [tbI, *]) hP hD (Nat.le_of_ble_eq_true rfl) (Nat.le_of_ble_eq_true rfl) d_C_turnBits_69
            · have g8 := mt (lg_cmp_gt _ _).mpr g8
              refine lv_bipush (v := 17) hx hb d_C_turnBits_62 (by decide) ?_
              refine lv_goto hx hb d_C_turnBits_64 (tgt := 69) rfl ?_
              exact rfI hx hb hr hlk hS () (by rw [← tbI_N]; simp [tbI, *]) hP hD (Nat.le_of_ble_eq_true rfl) (Nat.le_of_ble_eq_true rfl) d_C_turnBits_69
        · have g6 := mt (lg_cmp_gt _ _).mpr g6
          refine lv_bipush (v := 13) hx hb d_C_turnBits_43 (by decide) ?_
          exact rfI hx hb hr hlk hS () (by rw [← tbI_N]; simp [tbI, *]) hP hD (Nat.le_of_ble_eq_true rfl) (Nat.le_of_ble_eq_true rfl) d_C_turnBits_45
    · have g2 := mt (lg_cmp_lt _ _).mpr g2
      refine lv_lload_n hx hb d_C_turnBits_16 rfl (lv_at hl 0 rfl) ?_
      refine lv_ldc2 (v := 63) hx hb hown (hE.t w1209 rfl) d_C_turnBits_17 ?_
      refine W.lcmp hx hb d_C_turnBits_20 ?_
      refine lv_if_gt hx hb d_C_turnBits_21 (tgt := 27) rfl (fun g9 => ?_) (fun g9 => ?_)
      · have g9 := (lg_cmp_gt _ _).mp g9
        refine lv_lload_n hx hb d_C_turnBits_27 rfl (lv_at hl 0 rfl) ?_
        refine lv_ldc2 (v := (-512)) hx hb hown (hE.t w1205 rfl) d_C_turnBits_28 ?_
        refine W.lcmp hx hb d_C_turnBits_31 ?_
        refine lv_if_lt hx hb d_C_turnBits_32 (tgt := 46) rfl (fun g10 => ?_) (fun g10 => ?_)
        · have g10 := (lg_cmp_lt _ _).mp g10
          refine lv_lload_n hx hb d_C_turnBits_46 rfl (lv_at hl 0 rfl) ?_
          refine lv_ldc2 (v := (-4096)) hx hb hown (hE.t w1206 rfl) d_C_turnBits_47 ?_
          refine W.lcmp hx hb d_C_turnBits_50 ?_
          refine lv_if_lt hx hb d_C_turnBits_51 (tgt := 67) rfl (fun g11 => ?_) (fun g11 => ?_)
          · have g11 := (lg_cmp_lt _ _).mp g11
            refine lv_bipush (v := 45) hx hb d_C_turnBits_67 (by decide) ?_
            exact rfI hx hb hr hlk hS () (by rw [← tbI_N]; simp [tbI, *]) hP hD (Nat.le_of_ble_eq_true rfl) (Nat.le_of_ble_eq_true rfl) d_C_turnBits_69
          · have g11 := mt (lg_cmp_lt _ _).mpr g11
            refine lv_lload_n hx hb d_C_turnBits_54 rfl (lv_at hl 0 rfl) ?_
            refine lv_ldc2 (v := 4095) hx hb hown (hE.t w1207 rfl) d_C_turnBits_55 ?_
            refine W.lcmp hx hb d_C_turnBits_58 ?_
            refine lv_if_gt hx hb d_C_turnBits_59 (tgt := 67) rfl (fun g12 => ?_) (fun g12 => ?_)
            · have g12 := (lg_cmp_gt _ _).mp g12
              refine lv_bipush (v := 45) hx hb d_C_turnBits_67 (by decide) ?_
              exact rfI hx hb hr hlk hS () (by rw [← tbI_N]; simp [tbI, *]) hP hD (Nat.le_of_ble_eq_true rfl) (Nat.le_of_ble_eq_true rfl) d_C_turnBits_69
            · have g12 := mt (lg_cmp_gt _ _).mpr g12
              refine lv_bipush (v := 17) hx hb d_C_turnBits_62 (by decide) ?_
              refine lv_goto hx hb d_C_turnBits_64 (tgt := 69) rfl ?_
              exact rfI hx hb hr hlk hS () (by rw [← tbI_N]; simp [tbI, *]) hP hD (Nat.le_of_ble_eq_true rfl) (Nat.le_of_ble_eq_true rfl) d_C_turnBits_69
        · have g10 := mt (lg_cmp_lt _ _).mpr g10
          refine lv_lload_n hx hb d_C_turnBits_35 rfl (lv_at hl 0 rfl) ?_
          refine lv_ldc2 (v := 511) hx hb hown (hE.t w1208 rfl) d_C_turnBits_36 ?_
          refine W.lcmp hx hb d_C_turnBits_39 ?_
          refine lv_if_gt hx hb d_C_turnBits_40 (tgt := 46) rfl (fun g13 => ?_) (fun g13 => ?_)
          · have g13 := (lg_cmp_gt _ _).mp g13
            refine lv_lload_n hx hb d_C_turnBits_46 rfl (lv_at hl 0 rfl) ?_
            refine lv_ldc2 (v := (-4096)) hx hb hown (hE.t w1206 rfl) d_C_turnBits_47 ?_
            refine W.lcmp hx hb d_C_turnBits_50 ?_
            refine lv_if_lt hx hb d_C_turnBits_51 (tgt := 67) rfl (fun g14 => ?_) (fun g14 => ?_)
            · have g14 := (lg_cmp_lt _ _).mp g14
              refine lv_bipush (v := 45) hx hb d_C_turnBits_67 (by decide) ?_
              exact rfI hx hb hr hlk hS () (by rw [← tbI_N]; simp [tbI, *]) hP hD (Nat.le_of_ble_eq_true rfl) (Nat.le_of_ble_eq_true rfl) d_C_turnBits_69
            · have g14 := mt (lg_cmp_lt _ _).mpr g14
              refine lv_lload_n hx hb d_C_turnBits_54 rfl (lv_at hl 0 rfl) ?_
              refine lv_ldc2 (v := 4095) hx hb hown (hE.t w1207 rfl) d_C_turnBits_55 ?_
              refine W.lcmp hx hb d_C_turnBits_58 ?_
              refine lv_if_gt hx hb d_C_turnBits_59 (tgt := 67) rfl (fun g15 => ?_) (fun g15 => ?_)
              · have g15 := (lg_cmp_gt _ _).mp g15
                refine lv_bipush (v := 45) hx hb d_C_turnBits_67 (by decide) ?_
                exact rfI hx hb hr hlk hS () (by rw [← tbI_N]; simp [tbI, *]) hP hD (Nat.le_of_ble_eq_true rfl) (Nat.le_of_ble_eq_true rfl) d_C_turnBits_69
              · have g15 := mt (lg_cmp_gt _ _).mpr g15
                refine lv_bipush (v := 17) hx hb d_C_turnBits_62 (by decide) ?_
                refine lv_goto hx hb d_C_turnBits_64 (tgt := 69) rfl ?_
                exact rfI hx hb hr hlk hS () (by rw [← tbI_N]; simp [tbI, *]) hP hD (Nat.le_of_ble_eq_true rfl) (Nat.le_of_ble_eq_true rfl) d_C_turnBits_69
          · have g13 := mt (lg_cmp_gt _ _).mpr g13
            refine lv_bipush (v := 13) hx hb d_C_turnBits_43 (by decide) ?_
            exact rfI hx hb hr hlk hS () (by rw [← tbI_N]; simp [tbI, *]) hP hD (Nat.le_of_ble_eq_true rfl) (Nat.le_of_ble_eq_true rfl) d_C_turnBits_45
      · have g9 := mt (lg_cmp_gt _ _).mpr g9
        refine lv_bipush (v := 9) hx hb d_C_turnBits_24 (by decide) ?_
        exact rfI hx hb hr hlk hS () (by rw [← tbI_N]; simp [tbI, *]) hP hD (Nat.le_of_ble_eq_true rfl) (Nat.le_of_ble_eq_true rfl) d_C_turnBits_26
  · have g1 := (lg_cmp_eq _ _).mp g1
    refine lv_iconst (v := 1) hx hb d_C_turnBits_6 (by decide) ?_
    exact rfI hx hb hr hlk hS () (by rw [← tbI_N]; simp [tbI, *]) hP hD (Nat.le_of_ble_eq_true rfl) (Nat.le_of_ble_eq_true rfl) d_C_turnBits_7
theorem d_C_countChunks_0 : decode prog_4_method_3_code 0 = .ok (.iconst 0, 1) := by decide +kernel
theorem d_C_countChunks_1 : decode prog_4_method_3_code 1 = .ok (.istore_n 1, 1) := by decide +kernel
theorem d_C_countChunks_2 : decode prog_4_method_3_code 2 = .ok (.iconst 0, 1) := by decide +kernel
theorem d_C_countChunks_3 : decode prog_4_method_3_code 3 = .ok (.istore_n 2, 1) := by decide +kernel
theorem d_C_countChunks_4 : decode prog_4_method_3_code 4 = .ok (.iload_n 2, 1) := by decide +kernel
theorem d_C_countChunks_5 : decode prog_4_method_3_code 5 = .ok (.aload_n 0, 1) := by decide +kernel
theorem d_C_countChunks_6 : decode prog_4_method_3_code 6 = .ok (.arraylength, 1) := by decide +kernel
theorem d_C_countChunks_7 : decode prog_4_method_3_code 7 = .ok (.if_icmp .ge 27, 3) := by decide +kernel
theorem d_C_countChunks_34 : decode prog_4_method_3_code 34 = .ok (.iload_n 1, 1) := by decide +kernel
theorem d_C_countChunks_35 : decode prog_4_method_3_code 35 = .ok (.ireturn, 1) := by decide +kernel
theorem d_C_countChunks_10 : decode prog_4_method_3_code 10 = .ok (.iload_n 2, 1) := by decide +kernel
theorem d_C_countChunks_11 : decode prog_4_method_3_code 11 = .ok (.ifCond .eq 14, 3) := by decide +kernel
theorem d_C_countChunks_25 : decode prog_4_method_3_code 25 = .ok (.iinc 1 1, 3) := by decide +kernel
theorem d_C_countChunks_28 : decode prog_4_method_3_code 28 = .ok (.iinc 2 1, 3) := by decide +kernel
theorem d_C_countChunks_31 : decode prog_4_method_3_code 31 = .ok (.goto (-27), 3) := by decide +kernel
theorem d_C_countChunks_14 : decode prog_4_method_3_code 14 = .ok (.aload_n 0, 1) := by decide +kernel
theorem d_C_countChunks_15 : decode prog_4_method_3_code 15 = .ok (.iload_n 2, 1) := by decide +kernel
theorem d_C_countChunks_16 : decode prog_4_method_3_code 16 = .ok (.iaload, 1) := by decide +kernel
theorem d_C_countChunks_17 : decode prog_4_method_3_code 17 = .ok (.aload_n 0, 1) := by decide +kernel
theorem d_C_countChunks_18 : decode prog_4_method_3_code 18 = .ok (.iload_n 2, 1) := by decide +kernel
theorem d_C_countChunks_19 : decode prog_4_method_3_code 19 = .ok (.iconst 1, 1) := by decide +kernel
theorem d_C_countChunks_20 : decode prog_4_method_3_code 20 = .ok (.isub, 1) := by decide +kernel
theorem d_C_countChunks_21 : decode prog_4_method_3_code 21 = .ok (.iaload, 1) := by decide +kernel
theorem d_C_countChunks_22 : decode prog_4_method_3_code 22 = .ok (.if_icmp .eq 6, 3) := by decide +kernel
set_option maxHeartbeats 4000000 in
set_option maxRecDepth 100000 in
theorem v_countChunks (l : Launch) (D : va_G) (dA : Nat → ClassId) (sz : Nat) (ws : va_W) (a : Nat) (n : Nat) (o : Nat → Nat) (m_a : (a, .inl (dA 1, n, .inl (fun z9 => nI (o z9)))) ∈ ws) (hn : n ≤ 12000) (ho : ∀ i : Nat, i < n → o i < 256) : Met l ⟨"SeriesVault$Parcel", "countChunks", "([I)I"⟩ [Cond.code ⟨"SeriesVault$Parcel", "countChunks", "([I)I"⟩ prog_4_method_3_code 3 (some FieldType.int)] { frames := 1, cells := 0, slots := 0, locals := 0 } (pC D dA [.ref a] (ws) sz) (va_Qi (fun (r9 : Int32) (u9 : Unit) => r9 = nI (cnt n (chB o))) (fun (u9 : Unit) t9 => bW D (va_A (ws) sz) (ws) t9) (va_A (ws) sz)) 0 0 (va_A (ws) sz) := by
  refine mkC (y := ⟨"SeriesVault$Parcel", "countChunks", "([I)I"⟩) (cc := prog_4_method_3_code) (maxL := 3) (av := [.ref a]) (ws := ws) (sz := sz) (Qc := fun A => va_Qi (fun (r9 : Int32) (u9 : Unit) => r9 = nI (cnt n (chB o))) (fun (u9 : Unit) t9 => bW D A (ws) t9) A) (by decide) (Nat.le_of_ble_eq_true rfl) ?_
  intro A p e s m below meth c ls hsz hB
  obtain ⟨hx, hb, hr, hml, hown, hin, hlk, hE, hK, hP, hD, hS, hA, hN, hl⟩ := hB
  have hown : s.vm.findClass "SeriesVault$Parcel" = some m.cls := hown
  have hl : lv_has ls 3 [(0, .ref a)] := hl
  obtain ⟨H, hH⟩ : ∃ z, z = s.heap := ⟨_, rfl⟩
  have hP : va_P D vwCl (ws) H := by rw [hH]; exact hP
  have hS : va_S A s.heap H [] := by rw [hH]; exact hS
  rw [← hH]
  refine lv_iconst (v := 0) hx hb d_C_countChunks_0 (by decide) ?_
  refine lv_istore_n hx hb d_C_countChunks_1 rfl hl (by decide) rfl (fun ls hl => ?_)
  have hl : lv_has ls 3 [(1, .int 0), (0, .ref a)] := hl
  refine lv_iconst (v := 0) hx hb d_C_countChunks_2 (by decide) ?_
  refine lv_istore_n hx hb d_C_countChunks_3 rfl hl (by decide) rfl (fun ls hl => ?_)
  have hl : lv_has ls 3 [(2, .int 0), (1, .int 0), (0, .ref a)] := hl
  have L4 : ∀ (k9 : Nat) (i : Nat) (k : Nat) (i1 : i ≤ n) (i2 : k = cnt i (chB o)) (hk9 : n - i = k9), ∀ (H : Heap) (locs : List Loc) (ls : Array Slot) (hP : va_P D vwCl (ws) H) (hD : va_D A (ws)) (hS : va_S A s.heap H locs) (hl : lv_has ls 3 [(1, .int (nI k)), (2, .int (nI i)), (0, .ref a)]), W p l e ({ frames := 1, cells := 0, slots := 0, locals := 0 } : Room) s m ([.ref a] : List Value).toArray below meth c H locs 0 0 (MQ below (va_Qi (fun (r9 : Int32) (u9 : Unit) => r9 = nI (cnt n (chB o))) (fun (u9 : Unit) t9 => bW D A (ws) t9) A) ([.ref a] : List Value).toArray s 0 0 A) (F0 m 4 ls []) := by
    intro k9
    induction k9 using Nat.strongRecOn with
    | ind k9 ih4 =>
      intro i k i1 i2 hk9 H locs ls hP hD hS hl
      refine lv_iload_n hx hb d_C_countChunks_4 rfl (lv_at hl 1 rfl) ?_
      refine lv_aload_n hx hb d_C_countChunks_5 rfl (lv_at hl 2 rfl) ?_
      obtain ⟨qp1, ep2⟩ := List.getElem?_of_mem (show ((a, .inl (dA 1, n, .inl (fun z9 => nI (o z9)))) : Nat × va_E) ∈ ws from m_a)
      refine va_alen (v := nI n) hx hb hK hP (qp1) 1 ep2 rfl rfl d_C_countChunks_6 ?_
      refine lv_icmp_ge hx hb d_C_countChunks_7 (tgt := 34) rfl (fun g3 => ?_) (fun g3 => ?_)
      · have g3 := (nI_leI (a := n) (b := i) (by omega) (by omega)).mp g3
        refine lv_iload_n hx hb d_C_countChunks_34 rfl (lv_at hl 0 rfl) ?_
        exact rfI hx hb hr hlk hS () (by rw [i2, show i = n by omega]) hP hD (Nat.le_of_ble_eq_true rfl) (Nat.le_of_ble_eq_true rfl) d_C_countChunks_35
      · have g3 := mt (nI_leI (a := n) (b := i) (by omega) (by omega)).mpr g3
        refine lv_iload_n hx hb d_C_countChunks_10 rfl (lv_at hl 1 rfl) ?_
        refine lv_if_eq hx hb d_C_countChunks_11 (tgt := 25) rfl (fun g4 => ?_) (fun g4 => ?_)
        · have g4 := (nI_eq (a := i) (b := 0) (by omega) (by decide)).mp g4
          refine lv_iinc (k := 0) (v := nI (k + 1)) hx hb d_C_countChunks_25 hl rfl (iincN (k) 1 1 (by decide)) (by decide) rfl (fun ls hl => ?_)
          have hl : lv_has ls 3 [(1, .int (nI (k + 1))), (2, .int (nI i)), (0, .ref a)] := hl
          refine lv_iinc (k := 1) (v := nI (i + 1)) hx hb d_C_countChunks_28 hl rfl (iincN (i) 1 1 (by decide)) (by decide) rfl (fun ls hl => ?_)
          have hl : lv_has ls 3 [(2, .int (nI (i + 1))), (1, .int (nI (k + 1))), (0, .ref a)] := hl
          refine lv_goto hx hb d_C_countChunks_31 (tgt := 4) rfl ?_
          exact ih4 _ (by omega) (i + 1) (k + 1) (by omega) (by rw [cnt_t (show chB o i = true by unfold chB; rw [decide_eq_true g4]; rfl), i2]) rfl H _ ls hP hD hS (lv_sub hl [1, 0, 2] rfl)
        · have g4 := mt (nI_eq (a := i) (b := 0) (by omega) (by decide)).mpr g4
          have c7 := ho i (by omega)
          have c8 := ho (i - 1) (by omega)
          refine lv_aload_n hx hb d_C_countChunks_14 rfl (lv_at hl 2 rfl) ?_
          refine lv_iload_n hx hb d_C_countChunks_15 rfl (lv_at hl 1 rfl) ?_
          obtain ⟨qp5, ep6⟩ := List.getElem?_of_mem (show ((a, .inl (dA 1, n, .inl (fun z9 => nI (o z9)))) : Nat × va_E) ∈ ws from m_a)
          refine nild (f := (fun z9 => nI (o z9))) (n := n) hx hb hK hP (qp5) 1 ep6 rfl (i) (by omega) (by omega) d_C_countChunks_16 ?_
          refine lv_aload_n hx hb d_C_countChunks_17 rfl (lv_at hl 2 rfl) ?_
          refine lv_iload_n hx hb d_C_countChunks_18 rfl (lv_at hl 1 rfl) ?_
          refine lv_iconst (v := 1) hx hb d_C_countChunks_19 (by decide) ?_
          refine lv_isub hx hb d_C_countChunks_20 (tpi (y := nI (i - 1)) (pk_sub (a := i) (b := 1) (by omega)) ?_)
          obtain ⟨qp7, ep8⟩ := List.getElem?_of_mem (show ((a, .inl (dA 1, n, .inl (fun z9 => nI (o z9)))) : Nat × va_E) ∈ ws from m_a)
          refine nild (f := (fun z9 => nI (o z9))) (n := n) hx hb hK hP (qp7) 1 ep8 rfl (i - 1) (by omega) (by omega) d_C_countChunks_21 ?_
          refine lv_icmp_eq hx hb d_C_countChunks_22 (tgt := 28) rfl (fun g9 => ?_) (fun g9 => ?_)
          · have g9 := (nI_eq (a := o i) (b := o (i - 1)) (by omega) (by omega)).mp g9
            refine lv_iinc (k := 1) (v := nI (i + 1)) hx hb d_C_countChunks_28 hl rfl (iincN (i) 1 1 (by decide)) (by decide) rfl (fun ls hl => ?_)
            have hl : lv_has ls 3 [(2, .int (nI (i + 1))), (1, .int (nI k)), (0, .ref a)] := hl
            refine lv_goto hx hb d_C_countChunks_31 (tgt := 4) rfl ?_
            exact ih4 _ (by omega) (i + 1) k (by omega) (by rw [cnt_f (show chB o i = false by unfold chB; rw [decide_eq_false g4, decide_eq_true g9]; rfl), i2]) rfl H _ ls hP hD hS (lv_sub hl [1, 0, 2] rfl)
          · have g9 := mt (nI_eq (a := o i) (b := o (i - 1)) (by omega) (by omega)).mpr g9
            refine lv_iinc (k := 0) (v := nI (k + 1)) hx hb d_C_countChunks_25 hl rfl (iincN (k) 1 1 (by decide)) (by decide) rfl (fun ls hl => ?_)
            have hl : lv_has ls 3 [(1, .int (nI (k + 1))), (2, .int (nI i)), (0, .ref a)] := hl
            refine lv_iinc (k := 1) (v := nI (i + 1)) hx hb d_C_countChunks_28 hl rfl (iincN (i) 1 1 (by decide)) (by decide) rfl (fun ls hl => ?_)
            have hl : lv_has ls 3 [(2, .int (nI (i + 1))), (1, .int (nI (k + 1))), (0, .ref a)] := hl
            refine lv_goto hx hb d_C_countChunks_31 (tgt := 4) rfl ?_
            exact ih4 _ (by omega) (i + 1) (k + 1) (by omega) (by rw [cnt_t (show chB o i = true by unfold chB; rw [decide_eq_false g9]; exact Bool.or_true _), i2]) rfl H _ ls hP hD hS (lv_sub hl [1, 0, 2] rfl)
  exact L4 _ 0 0 (Nat.zero_le _) rfl rfl H _ ls hP hD hS (lv_sub hl [1, 0, 2] rfl)
theorem d_C_greatest_0 : decode prog_4_method_4_code 0 = .ok (.ldc2_w 61, 3) := by decide +kernel
theorem d_C_greatest_3 : decode prog_4_method_4_code 3 = .ok (.lstore_n 1, 1) := by decide +kernel
theorem d_C_greatest_4 : decode prog_4_method_4_code 4 = .ok (.iconst 0, 1) := by decide +kernel
theorem d_C_greatest_5 : decode prog_4_method_4_code 5 = .ok (.istore_n 3, 1) := by decide +kernel
theorem d_C_greatest_6 : decode prog_4_method_4_code 6 = .ok (.iload_n 3, 1) := by decide +kernel
theorem d_C_greatest_7 : decode prog_4_method_4_code 7 = .ok (.aload_n 0, 1) := by decide +kernel
theorem d_C_greatest_8 : decode prog_4_method_4_code 8 = .ok (.arraylength, 1) := by decide +kernel
theorem d_C_greatest_9 : decode prog_4_method_4_code 9 = .ok (.if_icmp .ge 17, 3) := by decide +kernel
theorem d_C_greatest_26 : decode prog_4_method_4_code 26 = .ok (.lload_n 1, 1) := by decide +kernel
theorem d_C_greatest_27 : decode prog_4_method_4_code 27 = .ok (.lreturn, 1) := by decide +kernel
theorem d_C_greatest_12 : decode prog_4_method_4_code 12 = .ok (.lload_n 1, 1) := by decide +kernel
theorem d_C_greatest_13 : decode prog_4_method_4_code 13 = .ok (.aload_n 0, 1) := by decide +kernel
theorem d_C_greatest_14 : decode prog_4_method_4_code 14 = .ok (.iload_n 3, 1) := by decide +kernel
theorem d_C_greatest_15 : decode prog_4_method_4_code 15 = .ok (.laload, 1) := by decide +kernel
theorem d_C_greatest_16 : decode prog_4_method_4_code 16 = .ok (.invokestatic 63, 3) := by decide +kernel
theorem d_C_greatest_19 : decode prog_4_method_4_code 19 = .ok (.lstore_n 1, 1) := by decide +kernel
theorem d_C_greatest_20 : decode prog_4_method_4_code 20 = .ok (.iinc 3 1, 3) := by decide +kernel
theorem d_C_greatest_23 : decode prog_4_method_4_code 23 = .ok (.goto (-17), 3) := by decide +kernel
theorem w1210 : Cond.constantLong "SeriesVault$Parcel" 61 (-1) ∈ aW := aw_of (tb_6 (List.mem_of_getElem? (i := 42) rfl)) rfl
theorem w1211 : Cond.methodLink "SeriesVault$Parcel" 63 ⟨"java/lang/Math", "max", "(JJ)J"⟩ ∈ aW := aw_of (tb_6 (List.mem_of_getElem? (i := 43) rfl)) rfl
set_option maxHeartbeats 4000000 in
set_option maxRecDepth 100000 in
theorem v_greatest (l : Launch) (D : va_G) (dA : Nat → ClassId) (sz : Nat) (ws : va_W) (a : Nat) (n : Nat) (t : Nat → Int64) (m_a : (a, .inl (dA 2, n, .inr (.inl t))) ∈ ws) (hn : n ≤ 12000) : Met l ⟨"SeriesVault$Parcel", "greatest", "([J)J"⟩ [Cond.code ⟨"SeriesVault$Parcel", "greatest", "([J)J"⟩ prog_4_method_4_code 4 (some FieldType.long)] { frames := 1, cells := 0, slots := 0, locals := 15 } (pC D dA [.ref a] (ws) sz) (va_Ql (fun (r9 : Int64) (u9 : Unit) => r9 = grG t n) (fun (u9 : Unit) t9 => bW D (va_A (ws) sz) (ws) t9) (va_A (ws) sz)) 0 0 (va_A (ws) sz) := by
  refine mkC (y := ⟨"SeriesVault$Parcel", "greatest", "([J)J"⟩) (cc := prog_4_method_4_code) (maxL := 4) (av := [.ref a]) (ws := ws) (sz := sz) (Qc := fun A => va_Ql (fun (r9 : Int64) (u9 : Unit) => r9 = grG t n) (fun (u9 : Unit) t9 => bW D A (ws) t9) A) (by decide) (Nat.le_of_ble_eq_true rfl) ?_
  intro A p e s m below meth c ls hsz hB
  obtain ⟨hx, hb, hr, hml, hown, hin, hlk, hE, hK, hP, hD, hS, hA, hN, hl⟩ := hB
  have hown : s.vm.findClass "SeriesVault$Parcel" = some m.cls := hown
  have hl : lv_has ls 4 [(0, .ref a)] := hl
  obtain ⟨H, hH⟩ : ∃ z, z = s.heap := ⟨_, rfl⟩
  have hP : va_P D vwCl (ws) H := by rw [hH]; exact hP
  have hS : va_S A s.heap H [] := by rw [hH]; exact hS
  rw [← hH]
  refine lv_ldc2 (v := (-1)) hx hb hown (hE.t w1210 rfl) d_C_greatest_0 ?_
  refine lv_lstore_n hx hb d_C_greatest_3 rfl hl (by decide) rfl (fun ls hl => ?_)
  have hl : lv_has ls 4 [(1, .long (-1)), (0, .ref a)] := hl
  refine lv_iconst (v := 0) hx hb d_C_greatest_4 (by decide) ?_
  refine lv_istore_n hx hb d_C_greatest_5 rfl hl (by decide) rfl (fun ls hl => ?_)
  have hl : lv_has ls 4 [(3, .int 0), (1, .long (-1)), (0, .ref a)] := hl
  have L6 : ∀ (k9 : Nat) (i : Nat) (g : Int64) (i1 : i ≤ n) (i2 : g = grG t i) (hk9 : n - i = k9), ∀ (H : Heap) (locs : List Loc) (ls : Array Slot) (hP : va_P D vwCl (ws) H) (hD : va_D A (ws)) (hS : va_S A s.heap H locs) (hl : lv_has ls 4 [(1, .long g), (3, .int (nI i)), (0, .ref a)]), W p l e ({ frames := 1, cells := 0, slots := 0, locals := 15 } : Room) s m ([.ref a] : List Value).toArray below meth c H locs 0 0 (MQ below (va_Ql (fun (r9 : Int64) (u9 : Unit) => r9 = grG t n) (fun (u9 : Unit) t9 => bW D A (ws) t9) A) ([.ref a] : List Value).toArray s 0 0 A) (F0 m 6 ls []) := by
    intro k9
    induction k9 using Nat.strongRecOn with
    | ind k9 ih6 =>
      intro i g i1 i2 hk9 H locs ls hP hD hS hl
      refine lv_iload_n hx hb d_C_greatest_6 rfl (lv_at hl 1 rfl) ?_
      refine lv_aload_n hx hb d_C_greatest_7 rfl (lv_at hl 2 rfl) ?_
      obtain ⟨qp1, ep2⟩ := List.getElem?_of_mem (show ((a, .inl (dA 2, n, .inr (.inl t))) : Nat × va_E) ∈ ws from m_a)
      refine va_alen (v := nI n) hx hb hK hP (qp1) 2 ep2 rfl rfl d_C_greatest_8 ?_
      refine lv_icmp_ge hx hb d_C_greatest_9 (tgt := 26) rfl (fun g3 => ?_) (fun g3 => ?_)
      · have g3 := (nI_leI (a := n) (b := i) (by omega) (by omega)).mp g3
        refine lv_lload_n hx hb d_C_greatest_26 rfl (lv_at hl 0 rfl) ?_
        exact rfL hx hb hr hlk hS () (by rw [i2, show i = n by omega]) hP hD (Nat.le_of_ble_eq_true rfl) (Nat.le_of_ble_eq_true rfl) d_C_greatest_27
      · have g3 := mt (nI_leI (a := n) (b := i) (by omega) (by omega)).mpr g3
        refine lv_lload_n hx hb d_C_greatest_12 rfl (lv_at hl 0 rfl) ?_
        refine lv_aload_n hx hb d_C_greatest_13 rfl (lv_at hl 2 rfl) ?_
        refine lv_iload_n hx hb d_C_greatest_14 rfl (lv_at hl 1 rfl) ?_
        obtain ⟨qp4, ep5⟩ := List.getElem?_of_mem (show ((a, .inl (dA 2, n, .inr (.inl t))) : Nat × va_E) ∈ ws from m_a)
        refine nlld (f := t) (n := n) hx hb hK hP (qp4) 2 ep5 rfl (i) (by omega) (by omega) d_C_greatest_15 ?_
        refine va_mmax_long hx hb (hml.trans hl.1.symm) hown (hE.t w1211 rfl) (hE.t w1095 rfl) (hE.t w549 rfl) (hE.t w1096 rfl) (Nat.le_of_ble_eq_true rfl) (Nat.le_of_ble_eq_true rfl) (Nat.le_of_ble_eq_true rfl) (Nat.le_of_ble_eq_true rfl) d_C_greatest_16 (tpl (y := maxL g (t i)) rfl ?_)
        refine lv_lstore_n hx hb d_C_greatest_19 rfl hl (by decide) rfl (fun ls hl => ?_)
        have hl : lv_has ls 4 [(1, .long (maxL g (t i))), (3, .int (nI i)), (0, .ref a)] := hl
        refine lv_iinc (k := 1) (v := nI (i + 1)) hx hb d_C_greatest_20 hl rfl (iincN (i) 1 1 (by decide)) (by decide) rfl (fun ls hl => ?_)
        have hl : lv_has ls 4 [(3, .int (nI (i + 1))), (1, .long (maxL g (t i))), (0, .ref a)] := hl
        refine lv_goto hx hb d_C_greatest_23 (tgt := 6) rfl ?_
        exact ih6 _ (by omega) (i + 1) (maxL g (t i)) (by omega) (by rw [i2]; rfl) rfl H _ ls hP hD hS (lv_sub hl [1, 0, 2] rfl)
  exact L6 _ 0 (-1) (Nat.zero_le _) rfl rfl H _ ls hP hD hS (lv_sub hl [1, 0, 2] rfl)
theorem d_C_bitsOfChunks_0 : decode prog_4_method_5_code 0 = .ok (.iconst 0, 1) := by decide +kernel
theorem d_C_bitsOfChunks_1 : decode prog_4_method_5_code 1 = .ok (.istore_n 3, 1) := by decide +kernel
theorem d_C_bitsOfChunks_2 : decode prog_4_method_5_code 2 = .ok (.lconst 0, 1) := by decide +kernel
theorem d_C_bitsOfChunks_3 : decode prog_4_method_5_code 3 = .ok (.lstore 4, 2) := by decide +kernel
theorem d_C_bitsOfChunks_5 : decode prog_4_method_5_code 5 = .ok (.iconst (-1), 1) := by decide +kernel
theorem d_C_bitsOfChunks_6 : decode prog_4_method_5_code 6 = .ok (.istore 6, 2) := by decide +kernel
theorem d_C_bitsOfChunks_8 : decode prog_4_method_5_code 8 = .ok (.iconst 0, 1) := by decide +kernel
theorem d_C_bitsOfChunks_9 : decode prog_4_method_5_code 9 = .ok (.istore 7, 2) := by decide +kernel
theorem d_C_bitsOfChunks_11 : decode prog_4_method_5_code 11 = .ok (.iconst 0, 1) := by decide +kernel
theorem d_C_bitsOfChunks_12 : decode prog_4_method_5_code 12 = .ok (.istore 8, 2) := by decide +kernel
theorem d_C_bitsOfChunks_14 : decode prog_4_method_5_code 14 = .ok (.iload 8, 2) := by decide +kernel
theorem d_C_bitsOfChunks_16 : decode prog_4_method_5_code 16 = .ok (.aload_n 0, 1) := by decide +kernel
theorem d_C_bitsOfChunks_17 : decode prog_4_method_5_code 17 = .ok (.arraylength, 1) := by decide +kernel
theorem d_C_bitsOfChunks_18 : decode prog_4_method_5_code 18 = .ok (.if_icmp .ge 170, 3) := by decide +kernel
theorem d_C_bitsOfChunks_188 : decode prog_4_method_5_code 188 = .ok (.iload_n 3, 1) := by decide +kernel
theorem d_C_bitsOfChunks_189 : decode prog_4_method_5_code 189 = .ok (.ireturn, 1) := by decide +kernel
theorem d_C_bitsOfChunks_21 : decode prog_4_method_5_code 21 = .ok (.iload 8, 2) := by decide +kernel
theorem d_C_bitsOfChunks_23 : decode prog_4_method_5_code 23 = .ok (.ifCond .eq 16, 3) := by decide +kernel
theorem d_C_bitsOfChunks_39 : decode prog_4_method_5_code 39 = .ok (.iinc 3 104, 3) := by decide +kernel
theorem d_C_bitsOfChunks_42 : decode prog_4_method_5_code 42 = .ok (.lconst 0, 1) := by decide +kernel
theorem d_C_bitsOfChunks_43 : decode prog_4_method_5_code 43 = .ok (.lstore 4, 2) := by decide +kernel
theorem d_C_bitsOfChunks_45 : decode prog_4_method_5_code 45 = .ok (.iconst (-1), 1) := by decide +kernel
theorem d_C_bitsOfChunks_46 : decode prog_4_method_5_code 46 = .ok (.istore 6, 2) := by decide +kernel
theorem d_C_bitsOfChunks_48 : decode prog_4_method_5_code 48 = .ok (.goto 134, 3) := by decide +kernel
theorem d_C_bitsOfChunks_182 : decode prog_4_method_5_code 182 = .ok (.iinc 8 1, 3) := by decide +kernel
theorem d_C_bitsOfChunks_185 : decode prog_4_method_5_code 185 = .ok (.goto (-171), 3) := by decide +kernel
theorem d_C_bitsOfChunks_26 : decode prog_4_method_5_code 26 = .ok (.aload_n 0, 1) := by decide +kernel
theorem d_C_bitsOfChunks_27 : decode prog_4_method_5_code 27 = .ok (.iload 8, 2) := by decide +kernel
theorem d_C_bitsOfChunks_29 : decode prog_4_method_5_code 29 = .ok (.iaload, 1) := by decide +kernel
theorem d_C_bitsOfChunks_30 : decode prog_4_method_5_code 30 = .ok (.aload_n 0, 1) := by decide +kernel
theorem d_C_bitsOfChunks_31 : decode prog_4_method_5_code 31 = .ok (.iload 8, 2) := by decide +kernel
theorem d_C_bitsOfChunks_33 : decode prog_4_method_5_code 33 = .ok (.iconst 1, 1) := by decide +kernel
theorem d_C_bitsOfChunks_34 : decode prog_4_method_5_code 34 = .ok (.isub, 1) := by decide +kernel
theorem d_C_bitsOfChunks_35 : decode prog_4_method_5_code 35 = .ok (.iaload, 1) := by decide +kernel
theorem d_C_bitsOfChunks_36 : decode prog_4_method_5_code 36 = .ok (.if_icmp .eq 15, 3) := by decide +kernel
theorem d_C_bitsOfChunks_51 : decode prog_4_method_5_code 51 = .ok (.lload 4, 2) := by decide +kernel
theorem d_C_bitsOfChunks_53 : decode prog_4_method_5_code 53 = .ok (.lstore 9, 2) := by decide +kernel
theorem d_C_bitsOfChunks_55 : decode prog_4_method_5_code 55 = .ok (.aload_n 1, 1) := by decide +kernel
theorem d_C_bitsOfChunks_56 : decode prog_4_method_5_code 56 = .ok (.iload 8, 2) := by decide +kernel
theorem d_C_bitsOfChunks_58 : decode prog_4_method_5_code 58 = .ok (.laload, 1) := by decide +kernel
theorem d_C_bitsOfChunks_59 : decode prog_4_method_5_code 59 = .ok (.aload_n 1, 1) := by decide +kernel
theorem d_C_bitsOfChunks_60 : decode prog_4_method_5_code 60 = .ok (.iload 8, 2) := by decide +kernel
theorem d_C_bitsOfChunks_62 : decode prog_4_method_5_code 62 = .ok (.iconst 1, 1) := by decide +kernel
theorem d_C_bitsOfChunks_63 : decode prog_4_method_5_code 63 = .ok (.isub, 1) := by decide +kernel
theorem d_C_bitsOfChunks_64 : decode prog_4_method_5_code 64 = .ok (.laload, 1) := by decide +kernel
theorem d_C_bitsOfChunks_65 : decode prog_4_method_5_code 65 = .ok (.lsub, 1) := by decide +kernel
theorem d_C_bitsOfChunks_66 : decode prog_4_method_5_code 66 = .ok (.lstore 4, 2) := by decide +kernel
theorem d_C_bitsOfChunks_68 : decode prog_4_method_5_code 68 = .ok (.iload_n 3, 1) := by decide +kernel
theorem d_C_bitsOfChunks_69 : decode prog_4_method_5_code 69 = .ok (.lload 4, 2) := by decide +kernel
theorem d_C_bitsOfChunks_71 : decode prog_4_method_5_code 71 = .ok (.lload 9, 2) := by decide +kernel
theorem d_C_bitsOfChunks_73 : decode prog_4_method_5_code 73 = .ok (.lsub, 1) := by decide +kernel
theorem d_C_bitsOfChunks_74 : decode prog_4_method_5_code 74 = .ok (.invokestatic 69, 3) := by decide +kernel
theorem d_C_bitsOfChunks_77 : decode prog_4_method_5_code 77 = .ok (.iadd, 1) := by decide +kernel
theorem d_C_bitsOfChunks_78 : decode prog_4_method_5_code 78 = .ok (.istore_n 3, 1) := by decide +kernel
theorem d_C_bitsOfChunks_79 : decode prog_4_method_5_code 79 = .ok (.aload_n 2, 1) := by decide +kernel
theorem d_C_bitsOfChunks_80 : decode prog_4_method_5_code 80 = .ok (.iload 8, 2) := by decide +kernel
theorem d_C_bitsOfChunks_82 : decode prog_4_method_5_code 82 = .ok (.laload, 1) := by decide +kernel
theorem d_C_bitsOfChunks_83 : decode prog_4_method_5_code 83 = .ok (.aload_n 2, 1) := by decide +kernel
theorem d_C_bitsOfChunks_84 : decode prog_4_method_5_code 84 = .ok (.iload 8, 2) := by decide +kernel
theorem d_C_bitsOfChunks_86 : decode prog_4_method_5_code 86 = .ok (.iconst 1, 1) := by decide +kernel
theorem d_C_bitsOfChunks_87 : decode prog_4_method_5_code 87 = .ok (.isub, 1) := by decide +kernel
theorem d_C_bitsOfChunks_88 : decode prog_4_method_5_code 88 = .ok (.laload, 1) := by decide +kernel
theorem d_C_bitsOfChunks_89 : decode prog_4_method_5_code 89 = .ok (.lxor, 1) := by decide +kernel
theorem d_C_bitsOfChunks_90 : decode prog_4_method_5_code 90 = .ok (.lstore 11, 2) := by decide +kernel
theorem d_C_bitsOfChunks_92 : decode prog_4_method_5_code 92 = .ok (.bipush 31, 2) := by decide +kernel
theorem d_C_bitsOfChunks_94 : decode prog_4_method_5_code 94 = .ok (.lload 11, 2) := by decide +kernel
theorem d_C_bitsOfChunks_96 : decode prog_4_method_5_code 96 = .ok (.invokestatic 73, 3) := by decide +kernel
theorem d_C_bitsOfChunks_99 : decode prog_4_method_5_code 99 = .ok (.invokestatic 78, 3) := by decide +kernel
theorem d_C_bitsOfChunks_102 : decode prog_4_method_5_code 102 = .ok (.istore 13, 2) := by decide +kernel
theorem d_C_bitsOfChunks_104 : decode prog_4_method_5_code 104 = .ok (.lload 11, 2) := by decide +kernel
theorem d_C_bitsOfChunks_106 : decode prog_4_method_5_code 106 = .ok (.invokestatic 82, 3) := by decide +kernel
theorem d_C_bitsOfChunks_109 : decode prog_4_method_5_code 109 = .ok (.istore 14, 2) := by decide +kernel
theorem d_C_bitsOfChunks_111 : decode prog_4_method_5_code 111 = .ok (.lload 11, 2) := by decide +kernel
theorem d_C_bitsOfChunks_113 : decode prog_4_method_5_code 113 = .ok (.lconst 0, 1) := by decide +kernel
theorem d_C_bitsOfChunks_114 : decode prog_4_method_5_code 114 = .ok (.lcmp, 1) := by decide +kernel
theorem d_C_bitsOfChunks_115 : decode prog_4_method_5_code 115 = .ok (.ifCond .ne 9, 3) := by decide +kernel
theorem d_C_bitsOfChunks_160 : decode prog_4_method_5_code 160 = .ok (.iload 13, 2) := by decide +kernel
theorem d_C_bitsOfChunks_162 : decode prog_4_method_5_code 162 = .ok (.istore 6, 2) := by decide +kernel
theorem d_C_bitsOfChunks_164 : decode prog_4_method_5_code 164 = .ok (.bipush 64, 2) := by decide +kernel
theorem d_C_bitsOfChunks_166 : decode prog_4_method_5_code 166 = .ok (.iload 13, 2) := by decide +kernel
theorem d_C_bitsOfChunks_168 : decode prog_4_method_5_code 168 = .ok (.isub, 1) := by decide +kernel
theorem d_C_bitsOfChunks_169 : decode prog_4_method_5_code 169 = .ok (.iload 14, 2) := by decide +kernel
theorem d_C_bitsOfChunks_171 : decode prog_4_method_5_code 171 = .ok (.isub, 1) := by decide +kernel
theorem d_C_bitsOfChunks_172 : decode prog_4_method_5_code 172 = .ok (.istore 7, 2) := by decide +kernel
theorem d_C_bitsOfChunks_174 : decode prog_4_method_5_code 174 = .ok (.iload_n 3, 1) := by decide +kernel
theorem d_C_bitsOfChunks_175 : decode prog_4_method_5_code 175 = .ok (.bipush 13, 2) := by decide +kernel
theorem d_C_bitsOfChunks_177 : decode prog_4_method_5_code 177 = .ok (.iload 7, 2) := by decide +kernel
theorem d_C_bitsOfChunks_179 : decode prog_4_method_5_code 179 = .ok (.iadd, 1) := by decide +kernel
theorem d_C_bitsOfChunks_180 : decode prog_4_method_5_code 180 = .ok (.iadd, 1) := by decide +kernel
theorem d_C_bitsOfChunks_181 : decode prog_4_method_5_code 181 = .ok (.istore_n 3, 1) := by decide +kernel
theorem d_C_bitsOfChunks_124 : decode prog_4_method_5_code 124 = .ok (.iload 6, 2) := by decide +kernel
theorem d_C_bitsOfChunks_126 : decode prog_4_method_5_code 126 = .ok (.iconst (-1), 1) := by decide +kernel
theorem d_C_bitsOfChunks_127 : decode prog_4_method_5_code 127 = .ok (.if_icmp .eq 33, 3) := by decide +kernel
theorem d_C_bitsOfChunks_130 : decode prog_4_method_5_code 130 = .ok (.iload 13, 2) := by decide +kernel
theorem d_C_bitsOfChunks_132 : decode prog_4_method_5_code 132 = .ok (.iload 6, 2) := by decide +kernel
theorem d_C_bitsOfChunks_134 : decode prog_4_method_5_code 134 = .ok (.if_icmp .lt 26, 3) := by decide +kernel
theorem d_C_bitsOfChunks_137 : decode prog_4_method_5_code 137 = .ok (.iload 14, 2) := by decide +kernel
theorem d_C_bitsOfChunks_139 : decode prog_4_method_5_code 139 = .ok (.bipush 64, 2) := by decide +kernel
theorem d_C_bitsOfChunks_141 : decode prog_4_method_5_code 141 = .ok (.iload 6, 2) := by decide +kernel
theorem d_C_bitsOfChunks_143 : decode prog_4_method_5_code 143 = .ok (.isub, 1) := by decide +kernel
theorem d_C_bitsOfChunks_144 : decode prog_4_method_5_code 144 = .ok (.iload 7, 2) := by decide +kernel
theorem d_C_bitsOfChunks_146 : decode prog_4_method_5_code 146 = .ok (.isub, 1) := by decide +kernel
theorem d_C_bitsOfChunks_147 : decode prog_4_method_5_code 147 = .ok (.if_icmp .lt 13, 3) := by decide +kernel
theorem d_C_bitsOfChunks_150 : decode prog_4_method_5_code 150 = .ok (.iload_n 3, 1) := by decide +kernel
theorem d_C_bitsOfChunks_151 : decode prog_4_method_5_code 151 = .ok (.iconst 2, 1) := by decide +kernel
theorem d_C_bitsOfChunks_152 : decode prog_4_method_5_code 152 = .ok (.iload 7, 2) := by decide +kernel
theorem d_C_bitsOfChunks_154 : decode prog_4_method_5_code 154 = .ok (.iadd, 1) := by decide +kernel
theorem d_C_bitsOfChunks_155 : decode prog_4_method_5_code 155 = .ok (.iadd, 1) := by decide +kernel
theorem d_C_bitsOfChunks_156 : decode prog_4_method_5_code 156 = .ok (.istore_n 3, 1) := by decide +kernel
theorem d_C_bitsOfChunks_157 : decode prog_4_method_5_code 157 = .ok (.goto 25, 3) := by decide +kernel
theorem d_C_bitsOfChunks_118 : decode prog_4_method_5_code 118 = .ok (.iinc 3 1, 3) := by decide +kernel
theorem d_C_bitsOfChunks_121 : decode prog_4_method_5_code 121 = .ok (.goto 61, 3) := by decide +kernel
theorem w1212 : Cond.methodLink "SeriesVault$Parcel" 69 ⟨"SeriesVault$Parcel", "turnBits", "(J)I"⟩ ∈ aW := aw_of (tb_6 (List.mem_of_getElem? (i := 16) rfl)) rfl
theorem w1213 : Cond.initialized "SeriesVault$Parcel" ∈ aW := aw_of (tb_1 (List.mem_of_getElem? (i := 33) rfl)) rfl
theorem w1214 : Cond.code ⟨"SeriesVault$Parcel", "turnBits", "(J)I"⟩ prog_4_method_6_code 2 (some FieldType.int) ∈ aW := aw_of (tb_6 (List.mem_of_getElem? (i := 18) rfl)) rfl
theorem w1215 : Cond.static ⟨"SeriesVault$Parcel", "turnBits", "(J)I"⟩ ∈ aW := aw_of (tb_6 (List.mem_of_getElem? (i := 17) rfl)) rfl
theorem w1216 : Cond.methodLink "SeriesVault$Parcel" 73 ⟨"java/lang/Long", "numberOfLeadingZeros", "(J)I"⟩ ∈ aW := aw_of (tb_6 (List.mem_of_getElem? (i := 25) rfl)) rfl
theorem w1217 : Cond.initialized "java/lang/Long" ∈ aW := aw_of (tb_1 (List.mem_of_getElem? (i := 34) rfl)) rfl
theorem w1218 : Cond.code ⟨"java/lang/Long", "numberOfLeadingZeros", "(J)I"⟩ prog_25_method_48_code 3 (some FieldType.int) ∈ aW := aw_of (tb_6 (List.mem_of_getElem? (i := 27) rfl)) rfl
theorem w1219 : Cond.static ⟨"java/lang/Long", "numberOfLeadingZeros", "(J)I"⟩ ∈ aW := aw_of (tb_6 (List.mem_of_getElem? (i := 26) rfl)) rfl
theorem w1220 : Cond.methodLink "SeriesVault$Parcel" 78 ⟨"java/lang/Math", "min", "(II)I"⟩ ∈ aW := aw_of (tb_6 (List.mem_of_getElem? (i := 32) rfl)) rfl
theorem w1221 : Cond.methodLink "SeriesVault$Parcel" 82 ⟨"java/lang/Long", "numberOfTrailingZeros", "(J)I"⟩ ∈ aW := aw_of (tb_6 (List.mem_of_getElem? (i := 33) rfl)) rfl
theorem w1222 : Cond.code ⟨"java/lang/Long", "numberOfTrailingZeros", "(J)I"⟩ prog_25_method_49_code 3 (some FieldType.int) ∈ aW := aw_of (tb_6 (List.mem_of_getElem? (i := 35) rfl)) rfl
theorem w1223 : Cond.static ⟨"java/lang/Long", "numberOfTrailingZeros", "(J)I"⟩ ∈ aW := aw_of (tb_6 (List.mem_of_getElem? (i := 34) rfl)) rfl
set_option maxHeartbeats 4000000 in
set_option maxRecDepth 100000 in
theorem v_bitsOfChunks (l : Launch) (D : va_G) (dA : Nat → ClassId) (sz : Nat) (ws : va_W) (a : Nat) (b : Nat) (c0 : Nat) (n : Nat) (o : Nat → Nat) (t : Nat → Int64) (v : Nat → Int64) (m_a : (a, .inl (dA 1, n, .inl (fun z9 => nI (o z9)))) ∈ ws) (m_b : (b, .inl (dA 2, n, .inr (.inl t))) ∈ ws) (m_c0 : (c0, .inl (dA 2, n, .inr (.inl v))) ∈ ws) (hn : n ≤ 12000) (ho : ∀ i : Nat, i < n → o i < 256) : Met l ⟨"SeriesVault$Parcel", "bitsOfChunks", "([I[J[J)I"⟩ [Cond.code ⟨"SeriesVault$Parcel", "bitsOfChunks", "([I[J[J)I"⟩ prog_4_method_5_code 15 (some FieldType.int)] { frames := 3, cells := 0, slots := 0, locals := 43 } (pC D dA [.ref a, .ref b, .ref c0] (ws) sz) (va_Qi (fun (r9 : Int32) (u9 : Unit) => r9 = nI (bcG o t v n).1) (fun (u9 : Unit) t9 => bW D (va_A (ws) sz) (ws) t9) (va_A (ws) sz)) 0 0 (va_A (ws) sz) := by
  refine mkC (y := ⟨"SeriesVault$Parcel", "bitsOfChunks", "([I[J[J)I"⟩) (cc := prog_4_method_5_code) (maxL := 15) (av := [.ref a, .ref b, .ref c0]) (ws := ws) (sz := sz) (Qc := fun A => va_Qi (fun (r9 : Int32) (u9 : Unit) => r9 = nI (bcG o t v n).1) (fun (u9 : Unit) t9 => bW D A (ws) t9) A) (by decide) (Nat.le_of_ble_eq_true rfl) ?_
  intro A p e s m below meth c ls hsz hB
  obtain ⟨hx, hb, hr, hml, hown, hin, hlk, hE, hK, hP, hD, hS, hA, hN, hl⟩ := hB
  have hown : s.vm.findClass "SeriesVault$Parcel" = some m.cls := hown
  have hl : lv_has ls 15 [(0, .ref a), (1, .ref b), (2, .ref c0)] := hl
  obtain ⟨H, hH⟩ : ∃ z, z = s.heap := ⟨_, rfl⟩
  have hP : va_P D vwCl (ws) H := by rw [hH]; exact hP
  have hS : va_S A s.heap H [] := by rw [hH]; exact hS
  rw [← hH]
  refine lv_iconst (v := 0) hx hb d_C_bitsOfChunks_0 (by decide) ?_
  refine lv_istore_n hx hb d_C_bitsOfChunks_1 rfl hl (by decide) rfl (fun ls hl => ?_)
  have hl : lv_has ls 15 [(3, .int 0), (0, .ref a), (1, .ref b), (2, .ref c0)] := hl
  refine lv_lconst (v := 0) hx hb d_C_bitsOfChunks_2 (by decide) ?_
  refine lv_lstore hx hb d_C_bitsOfChunks_3 hl (by decide) rfl (fun ls hl => ?_)
  have hl : lv_has ls 15 [(4, .long 0), (3, .int 0), (0, .ref a), (1, .ref b), (2, .ref c0)] := hl
  refine lv_iconst (v := (-1)) hx hb d_C_bitsOfChunks_5 (by decide) ?_
  refine lv_istore hx hb d_C_bitsOfChunks_6 hl (by decide) rfl (fun ls hl => ?_)
  have hl : lv_has ls 15 [(6, .int (-1)), (4, .long 0), (3, .int 0), (0, .ref a), (1, .ref b), (2, .ref c0)] := hl
  refine lv_iconst (v := 0) hx hb d_C_bitsOfChunks_8 (by decide) ?_
  refine lv_istore hx hb d_C_bitsOfChunks_9 hl (by decide) rfl (fun ls hl => ?_)
  have hl : lv_has ls 15 [(7, .int 0), (6, .int (-1)), (4, .long 0), (3, .int 0), (0, .ref a), (1, .ref b), (2, .ref c0)] := hl
  refine lv_iconst (v := 0) hx hb d_C_bitsOfChunks_11 (by decide) ?_
  refine lv_istore hx hb d_C_bitsOfChunks_12 hl (by decide) rfl (fun ls hl => ?_)
  have hl : lv_has ls 15 [(8, .int 0), (7, .int 0), (6, .int (-1)), (4, .long 0), (3, .int 0), (0, .ref a), (1, .ref b), (2, .ref c0)] := hl
  have L14 : ∀ (k9 : Nat) (i : Nat) (sm : Nat) (sp : Int64) (fa : Int32) (fl : Nat) (i1 : i ≤ n) (i2 : bcG o t v i = (sm, sp, fa, fl)) (hk9 : n - i = k9), ∀ (H : Heap) (locs : List Loc) (ls : Array Slot) (hP : va_P D vwCl (ws) H) (hD : va_D A (ws)) (hS : va_S A s.heap H locs) (hl : lv_has ls 15 [(3, .int (nI sm)), (4, .long sp), (6, .int fa), (7, .int (nI fl)), (8, .int (nI i)), (0, .ref a), (1, .ref b), (2, .ref c0)]), W p l e ({ frames := 3, cells := 0, slots := 0, locals := 43 } : Room) s m ([.ref a, .ref b, .ref c0] : List Value).toArray below meth c H locs 0 0 (MQ below (va_Qi (fun (r9 : Int32) (u9 : Unit) => r9 = nI (bcG o t v n).1) (fun (u9 : Unit) t9 => bW D A (ws) t9) A) ([.ref a, .ref b, .ref c0] : List Value).toArray s 0 0 A) (F0 m 14 ls []) := by
    intro k9
    induction k9 using Nat.strongRecOn with
    | ind k9 ih14 =>
      intro i sm sp fa fl i1 i2 hk9 H locs ls hP hD hS hl
      refine lv_iload hx hb d_C_bitsOfChunks_14 (lv_at hl 4 rfl) ?_
      refine lv_aload_n hx hb d_C_bitsOfChunks_16 rfl (lv_at hl 5 rfl) ?_
      obtain ⟨qp1, ep2⟩ := List.getElem?_of_mem (show ((a, .inl (dA 1, n, .inl (fun z9 => nI (o z9)))) : Nat × va_E) ∈ ws from m_a)
      refine va_alen (v := nI n) hx hb hK hP (qp1) 1 ep2 rfl rfl d_C_bitsOfChunks_17 ?_
      refine lv_icmp_ge hx hb d_C_bitsOfChunks_18 (tgt := 188) rfl (fun g3 => ?_) (fun g3 => ?_)
      · have g3 := (nI_leI (a := n) (b := i) (by omega) (by omega)).mp g3
        refine lv_iload_n hx hb d_C_bitsOfChunks_188 rfl (lv_at hl 0 rfl) ?_
        exact rfI hx hb hr hlk hS () (by rw [← show i = n by omega, i2]) hP hD (Nat.le_of_ble_eq_true rfl) (Nat.le_of_ble_eq_true rfl) d_C_bitsOfChunks_189
      · have g3 := mt (nI_leI (a := n) (b := i) (by omega) (by omega)).mpr g3
        refine lv_iload hx hb d_C_bitsOfChunks_21 (lv_at hl 4 rfl) ?_
        refine lv_if_eq hx hb d_C_bitsOfChunks_23 (tgt := 39) rfl (fun g4 => ?_) (fun g4 => ?_)
        · have g4 := (nI_eq (a := i) (b := 0) (by omega) (by decide)).mp g4
          refine lv_iinc (k := 0) (v := nI (sm + 104)) hx hb d_C_bitsOfChunks_39 hl rfl (iincN (sm) 104 104 (by decide)) (by decide) rfl (fun ls hl => ?_)
          have hl : lv_has ls 15 [(3, .int (nI (sm + 104))), (4, .long sp), (6, .int fa), (7, .int (nI fl)), (8, .int (nI i)), (0, .ref a), (1, .ref b), (2, .ref c0)] := hl
          refine lv_lconst (v := 0) hx hb d_C_bitsOfChunks_42 (by decide) ?_
          refine lv_lstore hx hb d_C_bitsOfChunks_43 hl (by decide) rfl (fun ls hl => ?_)
          have hl : lv_has ls 15 [(4, .long 0), (3, .int (nI (sm + 104))), (6, .int fa), (7, .int (nI fl)), (8, .int (nI i)), (0, .ref a), (1, .ref b), (2, .ref c0)] := hl
          refine lv_iconst (v := (-1)) hx hb d_C_bitsOfChunks_45 (by decide) ?_
          refine lv_istore hx hb d_C_bitsOfChunks_46 hl (by decide) rfl (fun ls hl => ?_)
          have hl : lv_has ls 15 [(6, .int (-1)), (4, .long 0), (3, .int (nI (sm + 104))), (7, .int (nI fl)), (8, .int (nI i)), (0, .ref a), (1, .ref b), (2, .ref c0)] := hl
          refine lv_goto hx hb d_C_bitsOfChunks_48 (tgt := 182) rfl ?_
          refine lv_iinc (k := 4) (v := nI (i + 1)) hx hb d_C_bitsOfChunks_182 hl rfl (iincN (i) 1 1 (by decide)) (by decide) rfl (fun ls hl => ?_)
          have hl : lv_has ls 15 [(8, .int (nI (i + 1))), (6, .int (-1)), (4, .long 0), (3, .int (nI (sm + 104))), (7, .int (nI fl)), (0, .ref a), (1, .ref b), (2, .ref c0)] := hl
          refine lv_goto hx hb d_C_bitsOfChunks_185 (tgt := 14) rfl ?_
          exact ih14 _ (by omega) (i + 1) (sm + 104) 0 (-1) fl (by omega) (bc_a (Or.inl g4) i2) rfl H _ ls hP hD hS (lv_sub hl [3, 2, 1, 4, 0, 5, 6, 7] rfl)
        · have g4 := mt (nI_eq (a := i) (b := 0) (by omega) (by decide)).mpr g4
          have c7 := ho i (by omega)
          have c8 := ho (i - 1) (by omega)
          refine lv_aload_n hx hb d_C_bitsOfChunks_26 rfl (lv_at hl 5 rfl) ?_
          refine lv_iload hx hb d_C_bitsOfChunks_27 (lv_at hl 4 rfl) ?_
          obtain ⟨qp5, ep6⟩ := List.getElem?_of_mem (show ((a, .inl (dA 1, n, .inl (fun z9 => nI (o z9)))) : Nat × va_E) ∈ ws from m_a)
          refine nild (f := (fun z9 => nI (o z9))) (n := n) hx hb hK hP (qp5) 1 ep6 rfl (i) (by omega) (by omega) d_C_bitsOfChunks_29 ?_
          refine lv_aload_n hx hb d_C_bitsOfChunks_30 rfl (lv_at hl 5 rfl) ?_
          refine lv_iload hx hb d_C_bitsOfChunks_31 (lv_at hl 4 rfl) ?_
          refine lv_iconst (v := 1) hx hb d_C_bitsOfChunks_33 (by decide) ?_
          refine lv_isub hx hb d_C_bitsOfChunks_34 (tpi (y := nI (i - 1)) (pk_sub (a := i) (b := 1) (by omega)) ?_)
          obtain ⟨qp7, ep8⟩ := List.getElem?_of_mem (show ((a, .inl (dA 1, n, .inl (fun z9 => nI (o z9)))) : Nat × va_E) ∈ ws from m_a)
          refine nild (f := (fun z9 => nI (o z9))) (n := n) hx hb hK hP (qp7) 1 ep8 rfl (i - 1) (by omega) (by omega) d_C_bitsOfChunks_35 ?_
          refine lv_icmp_eq hx hb d_C_bitsOfChunks_36 (tgt := 51) rfl (fun g9 => ?_) (fun g9 => ?_)
          · have g9 := (nI_eq (a := o i) (b := o (i - 1)) (by omega) (by omega)).mp g9
            refine lv_lload hx hb d_C_bitsOfChunks_51 (lv_at hl 1 rfl) ?_
            refine lv_lstore hx hb d_C_bitsOfChunks_53 hl (by decide) rfl (fun ls hl => ?_)
            have hl : lv_has ls 15 [(9, .long sp), (3, .int (nI sm)), (4, .long sp), (6, .int fa), (7, .int (nI fl)), (8, .int (nI i)), (0, .ref a), (1, .ref b), (2, .ref c0)] := hl
            refine lv_aload_n hx hb d_C_bitsOfChunks_55 rfl (lv_at hl 7 rfl) ?_
            refine lv_iload hx hb d_C_bitsOfChunks_56 (lv_at hl 5 rfl) ?_
            obtain ⟨qp10, ep11⟩ := List.getElem?_of_mem (show ((b, .inl (dA 2, n, .inr (.inl t))) : Nat × va_E) ∈ ws from m_b)
            refine nlld (f := t) (n := n) hx hb hK hP (qp10) 2 ep11 rfl (i) (by omega) (by omega) d_C_bitsOfChunks_58 ?_
            refine lv_aload_n hx hb d_C_bitsOfChunks_59 rfl (lv_at hl 7 rfl) ?_
            refine lv_iload hx hb d_C_bitsOfChunks_60 (lv_at hl 5 rfl) ?_
            refine lv_iconst (v := 1) hx hb d_C_bitsOfChunks_62 (by decide) ?_
            refine lv_isub hx hb d_C_bitsOfChunks_63 (tpi (y := nI (i - 1)) (pk_sub (a := i) (b := 1) (by omega)) ?_)
            obtain ⟨qp12, ep13⟩ := List.getElem?_of_mem (show ((b, .inl (dA 2, n, .inr (.inl t))) : Nat × va_E) ∈ ws from m_b)
            refine nlld (f := t) (n := n) hx hb hK hP (qp12) 2 ep13 rfl (i - 1) (by omega) (by omega) d_C_bitsOfChunks_64 ?_
            refine lv_lsub hx hb d_C_bitsOfChunks_65 ?_
            refine lv_lstore hx hb d_C_bitsOfChunks_66 hl (by decide) rfl (fun ls hl => ?_)
            have hl : lv_has ls 15 [(4, .long ((t i) - (t (i - 1)))), (9, .long sp), (3, .int (nI sm)), (6, .int fa), (7, .int (nI fl)), (8, .int (nI i)), (0, .ref a), (1, .ref b), (2, .ref c0)] := hl
            refine lv_iload_n hx hb d_C_bitsOfChunks_68 rfl (lv_at hl 2 rfl) ?_
            refine lv_lload hx hb d_C_bitsOfChunks_69 (lv_at hl 0 rfl) ?_
            refine lv_lload hx hb d_C_bitsOfChunks_71 (lv_at hl 1 rfl) ?_
            refine lv_lsub hx hb d_C_bitsOfChunks_73 ?_
            have hPc := hP.sub (ws' := []) [] rfl
            have hDc := hD.sub (ws' := []) [] (by decide) rfl
            refine jpI (rnS (As := [.long (((t i) - (t (i - 1))) - sp)]) (rest := [.int (nI sm)]) hx hb hml hown hE hK (hN _ _ hS) hPc hDc (v_turnBits l D dA H.size (((t i) - (t (i - 1))) - sp)) w1214 w1212 w1215 w1213 rfl rfl ⟨⟨by decide, by decide⟩, rfl⟩ ⟨(Nat.le_of_ble_eq_true rfl), (Nat.le_of_ble_eq_true rfl)⟩ rfl hl.1 rfl (Nat.le_of_ble_eq_true rfl) d_C_bitsOfChunks_74 ⟨(Nat.le_of_ble_eq_true rfl), (Nat.le_of_ble_eq_true rfl)⟩) hP hD hS hA (fun r14 u9 H locs hp9 hP hD hS => ?_)
            have hP : va_P D vwCl (ws) H := hP
            have hD : va_D A (ws) := hD
            replace hp9 : nI (tbN (((t i) - (t (i - 1))) - sp)) = r14 := Eq.symm hp9
            subst hp9
            refine lv_iadd hx hb d_C_bitsOfChunks_77 (tpi (y := nI (sm + (tbN (((t i) - (t (i - 1))) - sp)))) (nI_add (sm) (tbN (((t i) - (t (i - 1))) - sp))) ?_)
            refine lv_istore_n hx hb d_C_bitsOfChunks_78 rfl hl (by decide) rfl (fun ls hl => ?_)
            have hl : lv_has ls 15 [(3, .int (nI (sm + (tbN (((t i) - (t (i - 1))) - sp))))), (4, .long ((t i) - (t (i - 1)))), (9, .long sp), (6, .int fa), (7, .int (nI fl)), (8, .int (nI i)), (0, .ref a), (1, .ref b), (2, .ref c0)] := hl
            refine lv_aload_n hx hb d_C_bitsOfChunks_79 rfl (lv_at hl 8 rfl) ?_
            refine lv_iload hx hb d_C_bitsOfChunks_80 (lv_at hl 5 rfl) ?_
            obtain ⟨qp16, ep17⟩ := List.getElem?_of_mem (show ((c0, .inl (dA 2, n, .inr (.inl v))) : Nat × va_E) ∈ ws from m_c0)
            refine nlld (f := v) (n := n) hx hb hK hP (qp16) 2 ep17 rfl (i) (by omega) (by omega) d_C_bitsOfChunks_82 ?_
            refine lv_aload_n hx hb d_C_bitsOfChunks_83 rfl (lv_at hl 8 rfl) ?_
            refine lv_iload hx hb d_C_bitsOfChunks_84 (lv_at hl 5 rfl) ?_
            refine lv_iconst (v := 1) hx hb d_C_bitsOfChunks_86 (by decide) ?_
            refine lv_isub hx hb d_C_bitsOfChunks_87 (tpi (y := nI (i - 1)) (pk_sub (a := i) (b := 1) (by omega)) ?_)
            obtain ⟨qp18, ep19⟩ := List.getElem?_of_mem (show ((c0, .inl (dA 2, n, .inr (.inl v))) : Nat × va_E) ∈ ws from m_c0)
            refine nlld (f := v) (n := n) hx hb hK hP (qp18) 2 ep19 rfl (i - 1) (by omega) (by omega) d_C_bitsOfChunks_88 ?_
            refine lv_lxor hx hb d_C_bitsOfChunks_89 ?_
            refine lv_lstore hx hb d_C_bitsOfChunks_90 hl (by decide) rfl (fun ls hl => ?_)
            have hl : lv_has ls 15 [(11, .long ((v i) ^^^ (v (i - 1)))), (3, .int (nI (sm + (tbN (((t i) - (t (i - 1))) - sp))))), (4, .long ((t i) - (t (i - 1)))), (9, .long sp), (6, .int fa), (7, .int (nI fl)), (8, .int (nI i)), (0, .ref a), (1, .ref b), (2, .ref c0)] := hl
            refine lv_bipush (v := 31) hx hb d_C_bitsOfChunks_92 (by decide) ?_
            refine lv_lload hx hb d_C_bitsOfChunks_94 (lv_at hl 0 rfl) ?_
            have hPc := hP.sub (ws' := []) [] rfl
            have hDc := hD.sub (ws' := []) [] (by decide) rfl
            refine jpI (rnS (As := [.long ((v i) ^^^ (v (i - 1)))]) (rest := [.int 31]) hx hb hml hown hE hK (hN _ _ hS) hPc hDc (v_nlzL l D dA H.size ((v i) ^^^ (v (i - 1)))) w1218 w1216 w1219 w1217 rfl rfl ⟨⟨by decide, by decide⟩, rfl⟩ ⟨(Nat.le_of_ble_eq_true rfl), (Nat.le_of_ble_eq_true rfl)⟩ rfl hl.1 rfl (Nat.le_of_ble_eq_true rfl) d_C_bitsOfChunks_96 ⟨(Nat.le_of_ble_eq_true rfl), (Nat.le_of_ble_eq_true rfl)⟩) hP hD hS hA (fun r20 u9 H locs hp9 hP hD hS => ?_)
            have hP : va_P D vwCl (ws) H := hP
            have hD : va_D A (ws) := hD
            replace hp9 : nI (clzL ((v i) ^^^ (v (i - 1)))) = r20 := Eq.symm hp9
            subst hp9
            have cz := clzL_le ((v i) ^^^ (v (i - 1)))
            have cz := clzL_le ((v i) ^^^ (v (i - 1)))
            refine va_mmin hx hb (hml.trans hl.1.symm) hown (hE.t w1220 rfl) (hE.t w548 rfl) (hE.t w549 rfl) (hE.t w550 rfl) (Nat.le_of_ble_eq_true rfl) (Nat.le_of_ble_eq_true rfl) (Nat.le_of_ble_eq_true rfl) (Nat.le_of_ble_eq_true rfl) d_C_bitsOfChunks_99 (tpi (y := nI (min 31 (clzL ((v i) ^^^ (v (i - 1)))))) (nI_min (a := 31) (b := clzL ((v i) ^^^ (v (i - 1)))) (by omega) (by omega)) ?_)
            refine tpi (y := nI (abL ((v i) ^^^ (v (i - 1))))) rfl ?_
            refine lv_istore hx hb d_C_bitsOfChunks_102 hl (by decide) rfl (fun ls hl => ?_)
            have hl : lv_has ls 15 [(13, .int (nI (abL ((v i) ^^^ (v (i - 1)))))), (11, .long ((v i) ^^^ (v (i - 1)))), (3, .int (nI (sm + (tbN (((t i) - (t (i - 1))) - sp))))), (4, .long ((t i) - (t (i - 1)))), (9, .long sp), (6, .int fa), (7, .int (nI fl)), (8, .int (nI i)), (0, .ref a), (1, .ref b), (2, .ref c0)] := hl
            refine lv_lload hx hb d_C_bitsOfChunks_104 (lv_at hl 1 rfl) ?_
            have hPc := hP.sub (ws' := []) [] rfl
            have hDc := hD.sub (ws' := []) [] (by decide) rfl
            refine jpI (rnS (As := [.long ((v i) ^^^ (v (i - 1)))]) (rest := []) hx hb hml hown hE hK (hN _ _ hS) hPc hDc (v_ntzL l D dA H.size ((v i) ^^^ (v (i - 1)))) w1222 w1221 w1223 w1217 rfl rfl ⟨⟨by decide, by decide⟩, rfl⟩ ⟨(Nat.le_of_ble_eq_true rfl), (Nat.le_of_ble_eq_true rfl)⟩ rfl hl.1 rfl (Nat.le_of_ble_eq_true rfl) d_C_bitsOfChunks_106 ⟨(Nat.le_of_ble_eq_true rfl), (Nat.le_of_ble_eq_true rfl)⟩) hP hD hS hA (fun r22 u9 H locs hp9 hP hD hS => ?_)
            have hP : va_P D vwCl (ws) H := hP
            have hD : va_D A (ws) := hD
            replace hp9 : nI (ctzL ((v i) ^^^ (v (i - 1)))) = r22 := Eq.symm hp9
            subst hp9
            refine lv_istore hx hb d_C_bitsOfChunks_109 hl (by decide) rfl (fun ls hl => ?_)
            have hl : lv_has ls 15 [(14, .int (nI (ctzL ((v i) ^^^ (v (i - 1)))))), (13, .int (nI (abL ((v i) ^^^ (v (i - 1)))))), (11, .long ((v i) ^^^ (v (i - 1)))), (3, .int (nI (sm + (tbN (((t i) - (t (i - 1))) - sp))))), (4, .long ((t i) - (t (i - 1)))), (9, .long sp), (6, .int fa), (7, .int (nI fl)), (8, .int (nI i)), (0, .ref a), (1, .ref b), (2, .ref c0)] := hl
            refine lv_lload hx hb d_C_bitsOfChunks_111 (lv_at hl 2 rfl) ?_
            refine lv_lconst (v := 0) hx hb d_C_bitsOfChunks_113 (by decide) ?_
            refine W.lcmp hx hb d_C_bitsOfChunks_114 ?_
            refine lv_if_ne hx hb d_C_bitsOfChunks_115 (tgt := 124) rfl (fun g24 => ?_) (fun g24 => ?_)
            · have g24 := mt (lg_cmp_eq _ _).mpr g24
              have J160 : ∀ (hc : fa = -1 ∨ nI (abL ((v i) ^^^ (v (i - 1)))) < fa ∨ nI (ctzL ((v i) ^^^ (v (i - 1)))) < 64 - fa - nI fl), ∀ (H : Heap) (locs : List Loc) (ls : Array Slot) (hP : va_P D vwCl (ws) H) (hD : va_D A (ws)) (hS : va_S A s.heap H locs) (hl : lv_has ls 15 [(3, .int (nI (sm + tbN (t i - t (i - 1) - sp)))), (4, .long (t i - t (i - 1))), (6, .int fa), (7, .int (nI fl)), (8, .int (nI i)), (13, .int (nI (abL ((v i) ^^^ (v (i - 1)))))), (14, .int (nI (ctzL ((v i) ^^^ (v (i - 1)))))), (0, .ref a), (1, .ref b), (2, .ref c0)]), W p l e ({ frames := 3, cells := 0, slots := 0, locals := 43 } : Room) s m ([.ref a, .ref b, .ref c0] : List Value).toArray below meth c H locs 0 0 (MQ below (va_Qi (fun (r9 : Int32) (u9 : Unit) => r9 = nI (bcG o t v n).1) (fun (u9 : Unit) t9 => bW D A (ws) t9) A) ([.ref a, .ref b, .ref c0] : List Value).toArray s 0 0 A) (F0 m 160 ls []) := by
                intro hc H locs ls hP hD hS hl
                have ab1 := abL_le ((v i) ^^^ (v (i - 1)))
                have ab2 := ab_be (x := (v i) ^^^ (v (i - 1))) g24
                refine lv_iload hx hb d_C_bitsOfChunks_160 (lv_at hl 5 rfl) ?_
                refine lv_istore hx hb d_C_bitsOfChunks_162 hl (by decide) rfl (fun ls hl => ?_)
                have hl : lv_has ls 15 [(6, .int (nI (abL ((v i) ^^^ (v (i - 1)))))), (3, .int (nI (sm + tbN (t i - t (i - 1) - sp)))), (4, .long (t i - t (i - 1))), (7, .int (nI fl)), (8, .int (nI i)), (13, .int (nI (abL ((v i) ^^^ (v (i - 1)))))), (14, .int (nI (ctzL ((v i) ^^^ (v (i - 1)))))), (0, .ref a), (1, .ref b), (2, .ref c0)] := hl
                refine lv_bipush (v := 64) hx hb d_C_bitsOfChunks_164 (by decide) ?_
                refine lv_iload hx hb d_C_bitsOfChunks_166 (lv_at hl 5 rfl) ?_
                refine lv_isub hx hb d_C_bitsOfChunks_168 (tpi (y := nI (64 - (abL ((v i) ^^^ (v (i - 1)))))) (pk_sub (a := 64) (b := abL ((v i) ^^^ (v (i - 1)))) (by omega)) ?_)
                refine lv_iload hx hb d_C_bitsOfChunks_169 (lv_at hl 6 rfl) ?_
                refine lv_isub hx hb d_C_bitsOfChunks_171 (tpi (y := nI ((64 - (abL ((v i) ^^^ (v (i - 1))))) - (ctzL ((v i) ^^^ (v (i - 1)))))) (pk_sub (a := 64 - (abL ((v i) ^^^ (v (i - 1))))) (b := ctzL ((v i) ^^^ (v (i - 1)))) (by omega)) ?_)
                refine lv_istore hx hb d_C_bitsOfChunks_172 hl (by decide) rfl (fun ls hl => ?_)
                have hl : lv_has ls 15 [(7, .int (nI ((64 - (abL ((v i) ^^^ (v (i - 1))))) - (ctzL ((v i) ^^^ (v (i - 1))))))), (6, .int (nI (abL ((v i) ^^^ (v (i - 1)))))), (3, .int (nI (sm + tbN (t i - t (i - 1) - sp)))), (4, .long (t i - t (i - 1))), (8, .int (nI i)), (13, .int (nI (abL ((v i) ^^^ (v (i - 1)))))), (14, .int (nI (ctzL ((v i) ^^^ (v (i - 1)))))), (0, .ref a), (1, .ref b), (2, .ref c0)] := hl
                refine lv_iload_n hx hb d_C_bitsOfChunks_174 rfl (lv_at hl 2 rfl) ?_
                refine lv_bipush (v := 13) hx hb d_C_bitsOfChunks_175 (by decide) ?_
                refine lv_iload hx hb d_C_bitsOfChunks_177 (lv_at hl 0 rfl) ?_
                refine lv_iadd hx hb d_C_bitsOfChunks_179 (tpi (y := nI (13 + ((64 - (abL ((v i) ^^^ (v (i - 1))))) - (ctzL ((v i) ^^^ (v (i - 1))))))) (nI_add (13) ((64 - (abL ((v i) ^^^ (v (i - 1))))) - (ctzL ((v i) ^^^ (v (i - 1)))))) ?_)
                refine lv_iadd hx hb d_C_bitsOfChunks_180 (tpi (y := nI ((sm + tbN (t i - t (i - 1) - sp)) + (13 + ((64 - (abL ((v i) ^^^ (v (i - 1))))) - (ctzL ((v i) ^^^ (v (i - 1)))))))) (nI_add (sm + tbN (t i - t (i - 1) - sp)) (13 + ((64 - (abL ((v i) ^^^ (v (i - 1))))) - (ctzL ((v i) ^^^ (v (i - 1))))))) ?_)
                refine lv_istore_n hx hb d_C_bitsOfChunks_181 rfl hl (by decide) rfl (fun ls hl => ?_)
                have hl : lv_has ls 15 [(3, .int (nI ((sm + tbN (t i - t (i - 1) - sp)) + (13 + ((64 - (abL ((v i) ^^^ (v (i - 1))))) - (ctzL ((v i) ^^^ (v (i - 1))))))))), (7, .int (nI ((64 - (abL ((v i) ^^^ (v (i - 1))))) - (ctzL ((v i) ^^^ (v (i - 1))))))), (6, .int (nI (abL ((v i) ^^^ (v (i - 1)))))), (4, .long (t i - t (i - 1))), (8, .int (nI i)), (13, .int (nI (abL ((v i) ^^^ (v (i - 1)))))), (14, .int (nI (ctzL ((v i) ^^^ (v (i - 1)))))), (0, .ref a), (1, .ref b), (2, .ref c0)] := hl
                refine lv_iinc (k := 4) (v := nI (i + 1)) hx hb d_C_bitsOfChunks_182 hl rfl (iincN (i) 1 1 (by decide)) (by decide) rfl (fun ls hl => ?_)
                have hl : lv_has ls 15 [(8, .int (nI (i + 1))), (3, .int (nI ((sm + tbN (t i - t (i - 1) - sp)) + (13 + ((64 - (abL ((v i) ^^^ (v (i - 1))))) - (ctzL ((v i) ^^^ (v (i - 1))))))))), (7, .int (nI ((64 - (abL ((v i) ^^^ (v (i - 1))))) - (ctzL ((v i) ^^^ (v (i - 1))))))), (6, .int (nI (abL ((v i) ^^^ (v (i - 1)))))), (4, .long (t i - t (i - 1))), (13, .int (nI (abL ((v i) ^^^ (v (i - 1)))))), (14, .int (nI (ctzL ((v i) ^^^ (v (i - 1)))))), (0, .ref a), (1, .ref b), (2, .ref c0)] := hl
                refine lv_goto hx hb d_C_bitsOfChunks_185 (tgt := 14) rfl ?_
                exact ih14 _ (by omega) (i + 1) ((sm + tbN (t i - t (i - 1) - sp)) + (13 + ((64 - (abL ((v i) ^^^ (v (i - 1))))) - (ctzL ((v i) ^^^ (v (i - 1))))))) (t i - t (i - 1)) (nI (abL ((v i) ^^^ (v (i - 1))))) ((64 - (abL ((v i) ^^^ (v (i - 1))))) - (ctzL ((v i) ^^^ (v (i - 1))))) (by omega) (bc_n g4 g9 g24 hc i2) rfl H _ ls hP hD hS (lv_sub hl [1, 4, 3, 2, 0, 7, 8, 9] rfl)
              refine lv_iload hx hb d_C_bitsOfChunks_124 (lv_at hl 6 rfl) ?_
              refine lv_iconst (v := (-1)) hx hb d_C_bitsOfChunks_126 (by decide) ?_
              refine lv_icmp_eq hx hb d_C_bitsOfChunks_127 (tgt := 160) rfl (fun g25 => ?_) (fun g25 => ?_)
              · have g25 := g25
                exact J160 (Or.inl g25) H _ ls hP hD hS (lv_sub hl [3, 4, 6, 7, 8, 1, 0, 9, 10, 11] rfl)
              · have g25 := g25
                refine lv_iload hx hb d_C_bitsOfChunks_130 (lv_at hl 1 rfl) ?_
                refine lv_iload hx hb d_C_bitsOfChunks_132 (lv_at hl 6 rfl) ?_
                refine lv_icmp_lt hx hb d_C_bitsOfChunks_134 (tgt := 160) rfl (fun g26 => ?_) (fun g26 => ?_)
                · have g26 := g26
                  exact J160 (Or.inr (Or.inl g26)) H _ ls hP hD hS (lv_sub hl [3, 4, 6, 7, 8, 1, 0, 9, 10, 11] rfl)
                · have g26 := g26
                  refine lv_iload hx hb d_C_bitsOfChunks_137 (lv_at hl 0 rfl) ?_
                  refine lv_bipush (v := 64) hx hb d_C_bitsOfChunks_139 (by decide) ?_
                  refine lv_iload hx hb d_C_bitsOfChunks_141 (lv_at hl 6 rfl) ?_
                  refine lv_isub hx hb d_C_bitsOfChunks_143 ?_
                  refine lv_iload hx hb d_C_bitsOfChunks_144 (lv_at hl 7 rfl) ?_
                  refine lv_isub hx hb d_C_bitsOfChunks_146 ?_
                  refine lv_icmp_lt hx hb d_C_bitsOfChunks_147 (tgt := 160) rfl (fun g27 => ?_) (fun g27 => ?_)
                  · have g27 := g27
                    exact J160 (Or.inr (Or.inr g27)) H _ ls hP hD hS (lv_sub hl [3, 4, 6, 7, 8, 1, 0, 9, 10, 11] rfl)
                  · have g27 := g27
                    refine lv_iload_n hx hb d_C_bitsOfChunks_150 rfl (lv_at hl 3 rfl) ?_
                    refine lv_iconst (v := 2) hx hb d_C_bitsOfChunks_151 (by decide) ?_
                    refine lv_iload hx hb d_C_bitsOfChunks_152 (lv_at hl 7 rfl) ?_
                    refine lv_iadd hx hb d_C_bitsOfChunks_154 (tpi (y := nI (2 + fl)) (nI_add (2) (fl)) ?_)
                    refine lv_iadd hx hb d_C_bitsOfChunks_155 (tpi (y := nI ((sm + (tbN (((t i) - (t (i - 1))) - sp))) + (2 + fl))) (nI_add (sm + (tbN (((t i) - (t (i - 1))) - sp))) (2 + fl)) ?_)
                    refine lv_istore_n hx hb d_C_bitsOfChunks_156 rfl hl (by decide) rfl (fun ls hl => ?_)
                    have hl : lv_has ls 15 [(3, .int (nI ((sm + (tbN (((t i) - (t (i - 1))) - sp))) + (2 + fl)))), (14, .int (nI (ctzL ((v i) ^^^ (v (i - 1)))))), (13, .int (nI (abL ((v i) ^^^ (v (i - 1)))))), (11, .long ((v i) ^^^ (v (i - 1)))), (4, .long ((t i) - (t (i - 1)))), (9, .long sp), (6, .int fa), (7, .int (nI fl)), (8, .int (nI i)), (0, .ref a), (1, .ref b), (2, .ref c0)] := hl
                    refine lv_goto hx hb d_C_bitsOfChunks_157 (tgt := 182) rfl ?_
                    refine lv_iinc (k := 8) (v := nI (i + 1)) hx hb d_C_bitsOfChunks_182 hl rfl (iincN (i) 1 1 (by decide)) (by decide) rfl (fun ls hl => ?_)
                    have hl : lv_has ls 15 [(8, .int (nI (i + 1))), (3, .int (nI ((sm + (tbN (((t i) - (t (i - 1))) - sp))) + (2 + fl)))), (14, .int (nI (ctzL ((v i) ^^^ (v (i - 1)))))), (13, .int (nI (abL ((v i) ^^^ (v (i - 1)))))), (11, .long ((v i) ^^^ (v (i - 1)))), (4, .long ((t i) - (t (i - 1)))), (9, .long sp), (6, .int fa), (7, .int (nI fl)), (0, .ref a), (1, .ref b), (2, .ref c0)] := hl
                    refine lv_goto hx hb d_C_bitsOfChunks_185 (tgt := 14) rfl ?_
                    exact ih14 _ (by omega) (i + 1) ((sm + (tbN (((t i) - (t (i - 1))) - sp))) + (2 + fl)) ((t i) - (t (i - 1))) fa fl (by omega) (bc_k g4 g9 g24 g25 g26 g27 i2) rfl H _ ls hP hD hS (lv_sub hl [1, 5, 7, 8, 0, 9, 10, 11] rfl)
            · have g24 := (lg_cmp_eq _ _).mp g24
              refine lv_iinc (k := 3) (v := nI ((sm + (tbN (((t i) - (t (i - 1))) - sp))) + 1)) hx hb d_C_bitsOfChunks_118 hl rfl (iincN (sm + (tbN (((t i) - (t (i - 1))) - sp))) 1 1 (by decide)) (by decide) rfl (fun ls hl => ?_)
              have hl : lv_has ls 15 [(3, .int (nI ((sm + (tbN (((t i) - (t (i - 1))) - sp))) + 1))), (14, .int (nI (ctzL ((v i) ^^^ (v (i - 1)))))), (13, .int (nI (abL ((v i) ^^^ (v (i - 1)))))), (11, .long ((v i) ^^^ (v (i - 1)))), (4, .long ((t i) - (t (i - 1)))), (9, .long sp), (6, .int fa), (7, .int (nI fl)), (8, .int (nI i)), (0, .ref a), (1, .ref b), (2, .ref c0)] := hl
              refine lv_goto hx hb d_C_bitsOfChunks_121 (tgt := 182) rfl ?_
              refine lv_iinc (k := 8) (v := nI (i + 1)) hx hb d_C_bitsOfChunks_182 hl rfl (iincN (i) 1 1 (by decide)) (by decide) rfl (fun ls hl => ?_)
              have hl : lv_has ls 15 [(8, .int (nI (i + 1))), (3, .int (nI ((sm + (tbN (((t i) - (t (i - 1))) - sp))) + 1))), (14, .int (nI (ctzL ((v i) ^^^ (v (i - 1)))))), (13, .int (nI (abL ((v i) ^^^ (v (i - 1)))))), (11, .long ((v i) ^^^ (v (i - 1)))), (4, .long ((t i) - (t (i - 1)))), (9, .long sp), (6, .int fa), (7, .int (nI fl)), (0, .ref a), (1, .ref b), (2, .ref c0)] := hl
              refine lv_goto hx hb d_C_bitsOfChunks_185 (tgt := 14) rfl ?_
              exact ih14 _ (by omega) (i + 1) ((sm + (tbN (((t i) - (t (i - 1))) - sp))) + 1) ((t i) - (t (i - 1))) fa fl (by omega) (bc_z g4 g9 g24 i2) rfl H _ ls hP hD hS (lv_sub hl [1, 5, 7, 8, 0, 9, 10, 11] rfl)
          · have g9 := mt (nI_eq (a := o i) (b := o (i - 1)) (by omega) (by omega)).mpr g9
            refine lv_iinc (k := 0) (v := nI (sm + 104)) hx hb d_C_bitsOfChunks_39 hl rfl (iincN (sm) 104 104 (by decide)) (by decide) rfl (fun ls hl => ?_)
            have hl : lv_has ls 15 [(3, .int (nI (sm + 104))), (4, .long sp), (6, .int fa), (7, .int (nI fl)), (8, .int (nI i)), (0, .ref a), (1, .ref b), (2, .ref c0)] := hl
            refine lv_lconst (v := 0) hx hb d_C_bitsOfChunks_42 (by decide) ?_
            refine lv_lstore hx hb d_C_bitsOfChunks_43 hl (by decide) rfl (fun ls hl => ?_)
            have hl : lv_has ls 15 [(4, .long 0), (3, .int (nI (sm + 104))), (6, .int fa), (7, .int (nI fl)), (8, .int (nI i)), (0, .ref a), (1, .ref b), (2, .ref c0)] := hl
            refine lv_iconst (v := (-1)) hx hb d_C_bitsOfChunks_45 (by decide) ?_
            refine lv_istore hx hb d_C_bitsOfChunks_46 hl (by decide) rfl (fun ls hl => ?_)
            have hl : lv_has ls 15 [(6, .int (-1)), (4, .long 0), (3, .int (nI (sm + 104))), (7, .int (nI fl)), (8, .int (nI i)), (0, .ref a), (1, .ref b), (2, .ref c0)] := hl
            refine lv_goto hx hb d_C_bitsOfChunks_48 (tgt := 182) rfl ?_
            refine lv_iinc (k := 4) (v := nI (i + 1)) hx hb d_C_bitsOfChunks_182 hl rfl (iincN (i) 1 1 (by decide)) (by decide) rfl (fun ls hl => ?_)
            have hl : lv_has ls 15 [(8, .int (nI (i + 1))), (6, .int (-1)), (4, .long 0), (3, .int (nI (sm + 104))), (7, .int (nI fl)), (0, .ref a), (1, .ref b), (2, .ref c0)] := hl
            refine lv_goto hx hb d_C_bitsOfChunks_185 (tgt := 14) rfl ?_
            exact ih14 _ (by omega) (i + 1) (sm + 104) 0 (-1) fl (by omega) (bc_a (Or.inr g9) i2) rfl H _ ls hP hD hS (lv_sub hl [3, 2, 1, 4, 0, 5, 6, 7] rfl)
  exact L14 _ 0 0 0 (-1) 0 (Nat.zero_le _) rfl rfl H _ ls hP hD hS (lv_sub hl [4, 3, 2, 1, 0, 5, 6, 7] rfl)
end
