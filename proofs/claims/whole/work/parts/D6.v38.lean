/-! Methods that read java.util.ArrayList's shared empty array, or copy an array of objects: e0 and the Class object mi of Object[] go along. -/
def pCy (D : va_G) (dA : Nat → ClassId) (e0 mi : Nat) (av : List Value) (ws : va_W) (sz : Nat) : Array Value → State → Prop := fun a U => pCz D dA e0 av ws sz a U ∧ va_Mi "[Ljava/lang/Object;" mi U
theorem pCy_blind {D : va_G} {dA : Nat → ClassId} {e0 mi : Nat} {av : List Value} {ws : va_W} {sz : Nat} : FrameBlind (pCy D dA e0 mi av ws sz) := by
  intro a U g mk q
  exact ⟨pCz_blind a U g mk q.1, va_Mi.moved (u := U) (U := U.calling g mk a) (Vm.Alike.refl U.vm) q.2⟩
section RY
variable {p : Program} {l : Launch} {e : Env} {R : Room} {s : State} {m : MethodId} {args : Array Value} {below : List Frame} {meth : Method} {c : Code} {H : Heap} {locs : List Loc} {cells slots : Nat} {Q : State → Prop}
variable {D : va_G} {dA : Nat → ClassId} {A : Nat → Prop} {cc : ByteArray} {pc : Nat} {ls : Array Slot} {rest st0 : List Value} {ws wc wr : va_W} {e0 mi a : Nat}
theorem pre_y {av : List Value} (hE : eV s) (hK : va_K D vwCl (arT dA) s) (hZ : zZ e0 A s s.heap) (hT : zT e0 A s s.heap) (hMi : va_Mi "[Ljava/lang/Object;" mi s) (hS : va_S A s.heap H locs) (hN : sK s.heap H) (hP : va_P D vwCl wc H) (hD : va_D A wc) : ∀ U : State, U.heap = H → s.WarmedH U.vm → pCy D dA e0 mi av wc H.size av.toArray U := by
  intro U hU hW
  exact ⟨pre_z hE hK hZ hT hS hN hP hD U hU hW, va_Mi.moved (u := s) (U := U) hW.alike hMi⟩
theorem rnVy {y : MethodName} {bytes : ByteArray} {maxL mc ms n index nL : Nat} {ret : Option FieldType} {rm : Room} {Qc : Array Value → State → Outcome → State → Prop} {free : Addr → Prop} {own C : String} {T : u_T} {N ci q0 : Nat} {fs : List Value} {b : Nat} {As : List Value}
    (hx : p.tables.exec = Jvm.exec) (hb : c.code = cc) (hml : c.maxLocals = nL) (hown : s.vm.findClass own = some m.cls) (hE : eV s) (hK : va_K D vwCl (arT dA) s) (hZ : zZ e0 A s s.heap) (hT : zT e0 A s s.heap) (hMi : va_Mi "[Ljava/lang/Object;" mi s) (hS : va_S A s.heap H locs) (hN : sK s.heap H) (hP : va_P D vwCl wc H) (hD : va_D A wc)
    (hM : Met l y [Cond.code y bytes maxL ret] rm (pCy D dA e0 mi (.ref b :: As) wc H.size) Qc mc ms free) (he : wc[q0]? = some (b, .inr (ci, fs))) (hcl : vwCl[ci]? = some (C, T, N))
    (hc : Cond.code y bytes maxL ret ∈ aW) (hl : Cond.methodLink own index y ∈ aW) (hi : Cond.instanceMethod y ∈ aW) (hse : Cond.selects C y y ∈ aW) (hini : Cond.initialized y.cls ∈ aW) (hrc : rm.cells = mc) (hrs : rm.slots = ms)
    (hd : (y.cls ≠ "java/lang/invoke/MethodHandle" ∧ y.cls ≠ "java/lang/invoke/VarHandle") ∧ (parseMethodDescriptor y.desc).map (fun d => d.parameters.length) = some n) (hR : rm.frames + 1 ≤ R.frames ∧ 8 + (maxL + 11) + rm.locals ≤ R.locals)
    (hn : As.length = n) (hsize : ls.size = nL) (hst : st0 = As.reverse ++ .ref b :: rest) (hW : (rest.map fun v => v.category).sum ≤ 8) (hdg : decode cc pc = .ok (.invokevirtual index, 3)) (hf : cells + mc ≤ R.cells ∧ slots + ms ≤ R.slots) :
    va_Run p l e R s m args below meth c H locs cells slots mc ms (F0 m pc ls st0) rest (Qc (Value.ref b :: As).toArray) free :=
  va_runV (Ts := []) ⟨hx, hb, hml, hown, fun _ h => nomatch h⟩ hM ⟨cB_1 hE hc hl hini hrc hrs hd hR, hE.t hi rfl, hE.t hse rfl⟩ ⟨pCy_blind, va_recv hK hP hcl he, pre_y hE hK hZ hT hMi hS hN hP hD⟩ rfl hn hsize hst (lv_room hW) hdg hf
theorem rnIy {y : MethodName} {bytes : ByteArray} {maxL mc ms n index nL : Nat} {rm : Room} {Qc : Array Value → State → Outcome → State → Prop} {free : Addr → Prop} {own : String} {b : Nat} {As : List Value}
    (hx : p.tables.exec = Jvm.exec) (hb : c.code = cc) (hml : c.maxLocals = nL) (hown : s.vm.findClass own = some m.cls) (hE : eV s) (hK : va_K D vwCl (arT dA) s) (hZ : zZ e0 A s s.heap) (hT : zT e0 A s s.heap) (hMi : va_Mi "[Ljava/lang/Object;" mi s) (hS : va_S A s.heap H locs) (hN : sK s.heap H) (hP : va_P D vwCl wc H) (hD : va_D A wc)
    (hM : Met l y [Cond.code y bytes maxL none] rm (pCy D dA e0 mi (.ref b :: As) wc H.size) Qc mc ms free)
    (hc : Cond.code y bytes maxL none ∈ aW) (hl : Cond.methodLink own index y ∈ aW) (hi : Cond.instanceMethod y ∈ aW) (hini : Cond.initialized y.cls ∈ aW) (hy : y.name = "<init>") (hrc : rm.cells = mc) (hrs : rm.slots = ms)
    (hd : (y.cls ≠ "java/lang/invoke/MethodHandle" ∧ y.cls ≠ "java/lang/invoke/VarHandle") ∧ (parseMethodDescriptor y.desc).map (fun d => d.parameters.length) = some n) (hR : rm.frames + 1 ≤ R.frames ∧ 8 + (maxL + 11) + rm.locals ≤ R.locals)
    (hn : As.length = n) (hsize : ls.size = nL) (hst : st0 = As.reverse ++ .ref b :: rest) (hW : (rest.map fun v => v.category).sum ≤ 8) (hdg : decode cc pc = .ok (.invokespecial index, 3)) (hf : cells + mc ≤ R.cells ∧ slots + ms ≤ R.slots) :
    va_Run p l e R s m args below meth c H locs cells slots mc ms (F0 m pc ls st0) rest (Qc (Value.ref b :: As).toArray) free :=
  va_runI (Ts := []) ⟨hx, hb, hml, hown, fun _ h => nomatch h⟩ hM ⟨cB_1 hE hc hl hini hrc hrs hd hR, hy, hE.t hi rfl⟩ ⟨pCy_blind, pre_y hE hK hZ hT hMi hS hN hP hD⟩ rfl hn hsize hst (lv_room hW) hdg hf
theorem rnSy {y : MethodName} {bytes : ByteArray} {maxL mc ms n index nL : Nat} {ret : Option FieldType} {rm : Room} {Qc : Array Value → State → Outcome → State → Prop} {free : Addr → Prop} {own : String} {As : List Value}
    (hx : p.tables.exec = Jvm.exec) (hb : c.code = cc) (hml : c.maxLocals = nL) (hown : s.vm.findClass own = some m.cls) (hE : eV s) (hK : va_K D vwCl (arT dA) s) (hZ : zZ e0 A s s.heap) (hT : zT e0 A s s.heap) (hMi : va_Mi "[Ljava/lang/Object;" mi s) (hS : va_S A s.heap H locs) (hN : sK s.heap H) (hP : va_P D vwCl wc H) (hD : va_D A wc)
    (hM : Met l y [Cond.code y bytes maxL ret] rm (pCy D dA e0 mi As wc H.size) Qc mc ms free)
    (hc : Cond.code y bytes maxL ret ∈ aW) (hl : Cond.methodLink own index y ∈ aW) (hstat : Cond.static y ∈ aW) (hini : Cond.initialized y.cls ∈ aW) (hrc : rm.cells = mc) (hrs : rm.slots = ms)
    (hd : (y.cls ≠ "java/lang/invoke/MethodHandle" ∧ y.cls ≠ "java/lang/invoke/VarHandle") ∧ (parseMethodDescriptor y.desc).map (fun d => d.parameters.length) = some n) (hR : rm.frames + 1 ≤ R.frames ∧ 8 + (maxL + 11) + rm.locals ≤ R.locals)
    (hn : As.length = n) (hsize : ls.size = nL) (hst : st0 = As.reverse ++ rest) (hW : (rest.map fun v => v.category).sum ≤ 8) (hdg : decode cc pc = .ok (.invokestatic index, 3)) (hf : cells + mc ≤ R.cells ∧ slots + ms ≤ R.slots) :
    va_Run p l e R s m args below meth c H locs cells slots mc ms (F0 m pc ls st0) rest (Qc As.toArray) free :=
  va_runS (Ts := []) ⟨hx, hb, hml, hown, fun _ h => nomatch h⟩ hM ⟨cB_1 hE hc hl hini hrc hrs hd hR, hE.t hstat rfl⟩ ⟨pCy_blind, pre_y hE hK hZ hT hMi hS hN hP hD⟩ rfl hn hsize hst (lv_room hW) hdg hf
/-- getClass() of an array of objects -/
theorem ngetC (hx : p.tables.exec = Jvm.exec) (hb : c.code = cc) (hml : c.maxLocals = ls.size) {own : String} {index : Nat} (hown : s.vm.findClass own = some m.cls) (hE : eV s) (w1 : Cond.methodLink own index ⟨"java/lang/Object", "getClass", "()Ljava/lang/Class;"⟩ ∈ aW) (w2 : Cond.declares ⟨"java/lang/Object", "getClass", "()Ljava/lang/Class;"⟩ ∈ aW) (w3 : Cond.selects "[Ljava/lang/Object;" ⟨"java/lang/Object", "getClass", "()Ljava/lang/Class;"⟩ ⟨"java/lang/Object", "getClass", "()Ljava/lang/Class;"⟩ ∈ aW) (w4 : Cond.instanceMethod ⟨"java/lang/Object", "getClass", "()Ljava/lang/Class;"⟩ ∈ aW) (w5 : Cond.native ⟨"java/lang/Object", "getClass", "()Ljava/lang/Class;"⟩ ∈ aW)
    (hMi : va_Mi "[Ljava/lang/Object;" mi s) (hK : va_K D vwCl (arT dA) s) (hP : va_P D vwCl ws H) (q0 : Nat) {x : vp_A} (ha : ws[q0]? = some (a, .inl (dA 7, x))) (hframes : 1 ≤ R.frames) (hlocals : (rest.map fun v => v.category).sum + 14 ≤ R.locals) (hdg : decode cc pc = .ok (.invokevirtual index, 3))
    (k : W p l e R s m args below meth c H locs cells slots Q (F0 m (pc + 3) ls (.ref mi :: rest))) : W p l e R s m args below meth c H locs cells slots Q (F0 m pc ls (.ref a :: rest)) := by
  have hvm0 : (vp_cell (dA 7) x).vm = .none := by
    obtain ⟨n, f | f | f | f | f⟩ := x <;> rfl
  have hcl0 : (vp_cell (dA 7) x).cls = dA 7 := by
    obtain ⟨n, f | f | f | f | f⟩ := x <;> rfl
  exact va_getC hx hb hml hown (hE.t w1 rfl) (hE.t w2 rfl) (hE.t w3 rfl) (hE.t w4 rfl) (hE.t w5 rfl) hMi ⟨_, hP q0 _ ha, by rw [hvm0]; rfl, by rw [hcl0]; exact va_nmO (hK.2 7 _ rfl).2 (by decide)⟩ hframes hlocals hdg k
theorem ncpyO (hexec : p.tables.exec = Jvm.exec) (hb : c.code = cc) (hml : c.maxLocals = ls.size) {own : String} {index : Nat} (hown : s.vm.findClass own = some m.cls) (hlink : (Cond.methodLink own index arraycopyName).before args s = true) (hnat : (Cond.native arraycopyName).before args s = true) (hstat : (Cond.static arraycopyName).before args s = true) (hini : (Cond.initialized "java/lang/System").before args s = true)
    (hK : va_K D vwCl (arT dA) s) (hP : va_P D vwCl ws H) (hD : va_D A ws) (hS : va_S A s.heap H locs) (q0 q1 t0 ci : Nat) {a0 : Nat} {c0 : ClassId} {n0 n1 : Nat} {f g : Nat → Option Nat} {E : String} {r : vw_C} (hca : va_Nw (.castable r.1 E) s) (ha0 : ws[q0]? = some (a0, .inl (c0, n0, .inr (.inr (.inr (.inr f)))))) (ha1 : ws[q1]? = some (a, .inl (c0, n1, .inr (.inr (.inr (.inr g)))))) (ht0 : (arT dA)[t0]? = some (c0, .object E)) (hc : vwCl[ci]? = some r)
    (sp dp n : Nat) (h1 : sp < 2 ^ 31) (h2 : dp < 2 ^ 31) (h3 : n < 2 ^ 31) (h4 : sp + n ≤ n0) (h5 : dp + n ≤ n1) (hel : ∀ i : Nat, i < n → ∀ y : Nat, f (sp + i) = some y → ∃ vs : List Value, (y, .inr (ci, vs)) ∈ ws)
    (hframes : 1 ≤ R.frames) (hlocals : (rest.map fun v => v.category).sum + (nativeFrameWords "java/lang/System" "arraycopy" 5 + 11) ≤ R.locals) (hdg : decode cc pc = .ok (.invokestatic index, 3))
    (kk : ∀ (H1 : Heap) (locs1 : List Loc), va_P D vwCl (ws.set q1 (a, .inl (c0, n1, .inr (.inr (.inr (.inr (va_cpy f g sp dp n))))))) H1 → va_D A (ws.set q1 (a, .inl (c0, n1, .inr (.inr (.inr (.inr (va_cpy f g sp dp n))))))) → va_S A s.heap H1 locs1 → W p l e R s m args below meth c H1 locs1 cells slots Q (F0 m (pc + 3) ls rest)) : W p l e R s m args below meth c H locs cells slots Q (F0 m pc ls (.int (nI n) :: .int (nI dp) :: .ref a :: .int (nI sp) :: .ref a0 :: rest)) := by
  have hcls := (hK.1 ci r hc).2
  refine va_copyq (C := r.1) hexec hb hml hown hlink hnat hstat hini hK hP hD hS q0 q1 t0 t0 ha0 ha1 ht0 ht0 (nI_pos h1) (nI_pos h2) (nI_pos h3) ?_ ?_ ?_ ?_ hframes hlocals hdg ?_
  · rw [nI_clamp h1, nI_clamp h3]; exact h4
  · rw [nI_clamp h2, nI_clamp h3]; exact h5
  · rw [nI_clamp h1, nI_clamp h3]
    intro i hi y hy
    obtain ⟨vs, hm⟩ := hel i hi y hy
    obtain ⟨k, hk⟩ := List.getElem?_of_mem hm
    obtain ⟨r', hr', cellV, g1, g2, g3, -⟩ := hP k _ hk
    exact ⟨cellV, g1, by rw [g3]; rfl, by rw [g2]; exact hcls.1⟩
  · intro comp c9 e1 e2
    obtain ⟨c3, t3, f1, f2, f3⟩ := Cond.castable_spec (va_Nw.use (A := args) rfl hca)
    cases f1.symm.trans e2
    cases f2.symm.trans e1
    exact f3
  · rw [nI_clamp h1, nI_clamp h2, nI_clamp h3]; exact kk
end RY
theorem mkY {l : Launch} {y : MethodName} {cc : ByteArray} {maxL : Nat} {ret : Option FieldType} {rm : Room} {D : va_G} {dA : Nat → ClassId} {e0 mi : Nat} {av : List Value} {ws : va_W} {sz mc ms : Nat} {Qc : (Nat → Prop) → Array Value → State → Outcome → State → Prop}
    (hy : plainName y.cls = true) (hlen : (lg_sl av).length ≤ maxL)
    (body : ∀ (A : Nat → Prop) (p : Program) (e : Env) (s : State) (m : MethodId) (below : List Frame) (meth : Method) (c : Code) (ls : Array Slot), s.heap.size = sz → zZ e0 A s s.heap → zT e0 A s s.heap → va_Mi "[Ljava/lang/Object;" mi s → bS p s m meth c cc ret maxL y D dA ws A av ls →
      W p l e rm s m av.toArray below meth c s.heap [] 0 0 (MQ below (Qc A) av.toArray s mc ms A) (F0 m 0 ls [])) :
    Met l y [Cond.code y cc maxL ret] rm (pCy D dA e0 mi av ws sz) (Qc (va_A ws sz)) mc ms (va_A ws sz) := by
  refine Met.ofW (cc := cc) (maxL := maxL) (ret := ret) hy rfl ?_
  intro p e s m args below meth c s₁ B hml hv
  obtain ⟨⟨⟨rfl, hsz, hP, hK, hD0, hE⟩, hZ, hT, hn⟩, hMi⟩ := hv
  have hA : ∀ q : Nat, s.heap.size ≤ q → va_A ws sz q := fun q h => by rw [← hsz]; exact Or.inr h
  have hl := lv_entry av (n := maxL) hlen
  rw [lg_entry_eq]
  exact body (va_A ws sz) p e s m below meth c _ hsz (zZ_in hP hsz hZ) (zT_in hn hT) hMi ⟨B.exec, B.bytes, B.returns, hml, findClass_of_methodNamed B.named, (name_of_methodNamed B.named B.method).1, B.notSynchronized, hE, hK, hP, hD0.self, va_S.rf, hA, fun H L h => by subst hsz; exact sK_of hP h, hl⟩
/-- the first k of an array, and none behind -/
def cpF (f : Nat → Option Nat) (k : Nat) : Nat → Option Nat := fun q => if q < k then f q else none
theorem cpF_e {f : Nat → Option Nat} {k n : Nat} (h : k ≤ n) : va_cpy f (fun _ => none) 0 0 (min k n) = cpF f k := by
  funext q
  unfold va_cpy cpF
  rw [Nat.min_eq_left h]
  by_cases e : q < k
  · rw [if_pos (by omega), if_pos e, Nat.zero_add, Nat.sub_zero]
  · rw [if_neg (by omega), if_neg e]
theorem sar_nI {a : Nat} (h : a < 2 ^ 31) : nI a >>> ((1 : Int32) &&& 31) = nI (a / 2) := by
  rw [show ((1 : Int32) &&& 31) = 1 by decide]
  apply Int32.toBitVec_inj.mp
  rw [Int32.toBitVec_shiftRight]
  show (BitVec.ofNat 32 a).sshiftRight' ((1#32).smod 32#32) = BitVec.ofNat 32 (a / 2)
  rw [show (1#32).smod 32#32 = 1#32 by decide]
  show (BitVec.ofNat 32 a).sshiftRight 1 = _
  have h1 : (BitVec.ofNat 32 a).toNat = a := by rw [BitVec.toNat_ofNat]; omega
  have h2 : (BitVec.ofNat 32 a).msb = false := by rw [BitVec.msb_eq_decide, h1]; simp; omega
  apply BitVec.eq_of_toNat_eq
  rw [BitVec.sshiftRight_eq_of_msb_false h2, BitVec.toNat_ushiftRight, h1, BitVec.toNat_ofNat, Nat.shiftRight_eq_div_pow]
  omega
set_option maxHeartbeats 4000000 in
set_option maxRecDepth 100000 in
theorem v_ACinit (l : Launch) (D : va_G) (dA : Nat → ClassId) (sz : Nat) (ws : va_W) (a : Nat) : Met l ⟨"java/util/AbstractCollection", "<init>", "()V"⟩ [Cond.code ⟨"java/util/AbstractCollection", "<init>", "()V"⟩ prog_35_method_1_code 1 none] { frames := 1, cells := 0, slots := 0, locals := 12 } (pC D dA [.ref a] (ws) sz) (va_Qv (fun (u9 : Unit) => True) (fun (u9 : Unit) t9 => bW D (va_A (ws) sz) (ws) t9) (va_A (ws) sz)) 0 0 (va_A (ws) sz) := by
  refine mkC (y := ⟨"java/util/AbstractCollection", "<init>", "()V"⟩) (cc := prog_35_method_1_code) (maxL := 1) (av := [.ref a]) (ws := ws) (sz := sz) (Qc := fun A => va_Qv (fun (u9 : Unit) => True) (fun (u9 : Unit) t9 => bW D A (ws) t9) A) (by decide) (Nat.le_of_ble_eq_true rfl) ?_
  intro A p e s m below meth c ls hsz hB
  obtain ⟨hx, hb, hr, hml, hown, hin, hlk, hE, hK, hP, hD, hS, hA, hN, hl⟩ := hB
  have hown : s.vm.findClass "java/util/AbstractCollection" = some m.cls := hown
  have hl : lv_has ls 1 [(0, .ref a)] := hl
  obtain ⟨H, hH⟩ : ∃ z, z = s.heap := ⟨_, rfl⟩
  have hP : va_P D vwCl (ws) H := by rw [hH]; exact hP
  have hS : va_S A s.heap H [] := by rw [hH]; exact hS
  rw [← hH]
  refine lv_aload_n hx hb d_AbstractCollection_init_0 rfl (lv_at hl 0 rfl) ?_
  refine oI hx hb hown hE w752 w182 w183 (hl.1.trans hml.symm) d_AbstractCollection_init_1 (Nat.le_of_ble_eq_true rfl) (Nat.le_of_ble_eq_true rfl) ?_
  exact rfV hx hb hr hlk hS () trivial hP hD (Nat.le_of_ble_eq_true rfl) (Nat.le_of_ble_eq_true rfl) d_AbstractCollection_init_4
set_option maxHeartbeats 4000000 in
set_option maxRecDepth 100000 in
theorem v_ALinit (l : Launch) (D : va_G) (dA : Nat → ClassId) (sz : Nat) (ws : va_W) (a : Nat) : Met l ⟨"java/util/AbstractList", "<init>", "()V"⟩ [Cond.code ⟨"java/util/AbstractList", "<init>", "()V"⟩ prog_36_method_1_code 1 none] { frames := 2, cells := 0, slots := 0, locals := 32 } (pC D dA [.ref a] ([(a, .inr (6, [.null, .int 0, .int 0]))] ++ (ws)) sz) (va_Qv (fun (u9 : Unit) => True) (fun (u9 : Unit) t9 => bW D (va_A ([(a, .inr (6, [.null, .int 0, .int 0]))] ++ (ws)) sz) ([(a, .inr (6, [.null, .int 0, .int 0]))] ++ (ws)) t9) (va_A ([(a, .inr (6, [.null, .int 0, .int 0]))] ++ (ws)) sz)) 0 0 (va_A ([(a, .inr (6, [.null, .int 0, .int 0]))] ++ (ws)) sz) := by
  refine mkC (y := ⟨"java/util/AbstractList", "<init>", "()V"⟩) (cc := prog_36_method_1_code) (maxL := 1) (av := [.ref a]) (ws := [(a, .inr (6, [.null, .int 0, .int 0]))] ++ (ws)) (sz := sz) (Qc := fun A => va_Qv (fun (u9 : Unit) => True) (fun (u9 : Unit) t9 => bW D A ([(a, .inr (6, [.null, .int 0, .int 0]))] ++ (ws)) t9) A) (by decide) (Nat.le_of_ble_eq_true rfl) ?_
  intro A p e s m below meth c ls hsz hB
  obtain ⟨hx, hb, hr, hml, hown, hin, hlk, hE, hK, hP, hD, hS, hA, hN, hl⟩ := hB
  have hown : s.vm.findClass "java/util/AbstractList" = some m.cls := hown
  have hl : lv_has ls 1 [(0, .ref a)] := hl
  obtain ⟨H, hH⟩ : ∃ z, z = s.heap := ⟨_, rfl⟩
  have hP : va_P D vwCl ([(a, .inr (6, [.null, .int 0, .int 0]))] ++ (ws)) H := by rw [hH]; exact hP
  have hS : va_S A s.heap H [] := by rw [hH]; exact hS
  rw [← hH]
  refine lv_aload_n hx hb d_AbstractList_init_0 rfl (lv_at hl 0 rfl) ?_
  refine jkV (wr := []) (rnI (As := []) (rest := []) hx hb hml hown hE hK (hN _ _ hS) hP hD (v_ACinit l D dA H.size ([(a, .inr (6, [.null, .int 0, .int 0]))] ++ (ws)) a) w755 w753 w756 w754 rfl rfl rfl ⟨⟨by decide, by decide⟩, rfl⟩ ⟨(Nat.le_of_ble_eq_true rfl), (Nat.le_of_ble_eq_true rfl)⟩ rfl hl.1 rfl (Nat.le_of_ble_eq_true rfl) d_AbstractList_init_1 ⟨(Nat.le_of_ble_eq_true rfl), (Nat.le_of_ble_eq_true rfl)⟩) hP hD hS hA (fun u2 H locs hp9 hP hD hS => ?_)
  have hP : va_P D vwCl ([(a, .inr (6, [.null, .int 0, .int 0]))] ++ (ws)) H := hP
  have hD : va_D A ([(a, .inr (6, [.null, .int 0, .int 0]))] ++ (ws)) := hD
  refine lv_aload_n hx hb d_AbstractList_init_4 rfl (lv_at hl 0 rfl) ?_
  refine lv_iconst (v := 0) hx hb d_AbstractList_init_5 (by decide) ?_
  refine pF (v := .int 0) hx hb hown hE hK hP hD hS 0 rfl rfl layL tyL tokL nmL 2 (by decide) w757 rfl rfl rfl (Nat.le_of_ble_eq_true rfl) d_AbstractList_init_6 (fun H locs hP hD hS => ?_)
  have hP : va_P D vwCl ([(a, .inr (6, [.null, .int 0, .int 0]))] ++ (ws)) H := hP
  have hD : va_D A ([(a, .inr (6, [.null, .int 0, .int 0]))] ++ (ws)) := hD
  exact rfV hx hb hr hlk hS () trivial hP hD (Nat.le_of_ble_eq_true rfl) (Nat.le_of_ble_eq_true rfl) d_AbstractList_init_9
set_option maxHeartbeats 4000000 in
set_option maxRecDepth 100000 in
theorem v_Linit (l : Launch) (D : va_G) (dA : Nat → ClassId) (sz : Nat) (e0 mi : Nat) (ws : va_W) (a : Nat) : Met l ⟨"java/util/ArrayList", "<init>", "()V"⟩ [Cond.code ⟨"java/util/ArrayList", "<init>", "()V"⟩ prog_37_method_2_code 1 none] { frames := 3, cells := 0, slots := 0, locals := 52 } (pCy D dA e0 mi [.ref a] ([(a, .inr (6, [.null, .int 0, .int 0]))] ++ (ws)) sz) (va_Qv (fun (u9 : Unit) => True) (fun (u9 : Unit) t9 => bW D (va_A ([(a, .inr (6, [.null, .int 0, .int 0]))] ++ (ws)) sz) ([(a, .inr (6, [.ref e0, .int 0, .int 0]))] ++ (ws)) t9) (va_A ([(a, .inr (6, [.null, .int 0, .int 0]))] ++ (ws)) sz)) 0 0 (va_A ([(a, .inr (6, [.null, .int 0, .int 0]))] ++ (ws)) sz) := by
  refine mkY (y := ⟨"java/util/ArrayList", "<init>", "()V"⟩) (cc := prog_37_method_2_code) (maxL := 1) (av := [.ref a]) (ws := [(a, .inr (6, [.null, .int 0, .int 0]))] ++ (ws)) (sz := sz) (Qc := fun A => va_Qv (fun (u9 : Unit) => True) (fun (u9 : Unit) t9 => bW D A ([(a, .inr (6, [.ref e0, .int 0, .int 0]))] ++ (ws)) t9) A) (by decide) (Nat.le_of_ble_eq_true rfl) ?_
  intro A p e s m below meth c ls hsz hZ hT hM hB
  obtain ⟨hx, hb, hr, hml, hown, hin, hlk, hE, hK, hP, hD, hS, hA, hN, hl⟩ := hB
  have hown : s.vm.findClass "java/util/ArrayList" = some m.cls := hown
  have hl : lv_has ls 1 [(0, .ref a)] := hl
  obtain ⟨H, hH⟩ : ∃ z, z = s.heap := ⟨_, rfl⟩
  have hP : va_P D vwCl ([(a, .inr (6, [.null, .int 0, .int 0]))] ++ (ws)) H := by rw [hH]; exact hP
  have hS : va_S A s.heap H [] := by rw [hH]; exact hS
  rw [← hH]
  refine lv_aload_n hx hb d_L_init_0 rfl (lv_at hl 0 rfl) ?_
  refine jkV (wr := []) (rnI (As := []) (rest := []) hx hb hml hown hE hK (hN _ _ hS) hP hD (v_ALinit l D dA H.size ws a) w760 w758 w761 w759 rfl rfl rfl ⟨⟨by decide, by decide⟩, rfl⟩ ⟨(Nat.le_of_ble_eq_true rfl), (Nat.le_of_ble_eq_true rfl)⟩ rfl hl.1 rfl (Nat.le_of_ble_eq_true rfl) d_L_init_1 ⟨(Nat.le_of_ble_eq_true rfl), (Nat.le_of_ble_eq_true rfl)⟩) hP hD hS hA (fun u2 H locs hp9 hP hD hS => ?_)
  have hP : va_P D vwCl ([(a, .inr (6, [.null, .int 0, .int 0]))] ++ (ws)) H := hP
  have hD : va_D A ([(a, .inr (6, [.null, .int 0, .int 0]))] ++ (ws)) := hD
  refine lv_aload_n hx hb d_L_init_4 rfl (lv_at hl 0 rfl) ?_
  refine va_gets hx hb hZ hS hown (hE.t w762 rfl) (fun _ h => h) d_L_init_5 ?_
  refine pF (v := .ref e0) hx hb hown hE hK hP hD hS 0 rfl rfl layL tyL tokL nmL 0 (by decide) w656 rfl rfl rfl (Nat.le_of_ble_eq_true rfl) d_L_init_8 (fun H locs hP hD hS => ?_)
  have hP : va_P D vwCl ([(a, .inr (6, [.ref e0, .int 0, .int 0]))] ++ (ws)) H := hP
  have hD : va_D A ([(a, .inr (6, [.ref e0, .int 0, .int 0]))] ++ (ws)) := hD
  exact rfV hx hb hr hlk hS () trivial hP hD (Nat.le_of_ble_eq_true rfl) (Nat.le_of_ble_eq_true rfl) d_L_init_11
theorem d_ArraysSupport_newLength_0 : decode prog_44_method_27_code 0 = .ok (.iload_n 0, 1) := by decide +kernel
theorem d_ArraysSupport_newLength_1 : decode prog_44_method_27_code 1 = .ok (.iload_n 1, 1) := by decide +kernel
theorem d_ArraysSupport_newLength_2 : decode prog_44_method_27_code 2 = .ok (.iload_n 2, 1) := by decide +kernel
theorem d_ArraysSupport_newLength_3 : decode prog_44_method_27_code 3 = .ok (.invokestatic 194, 3) := by decide +kernel
theorem d_ArraysSupport_newLength_6 : decode prog_44_method_27_code 6 = .ok (.iadd, 1) := by decide +kernel
theorem d_ArraysSupport_newLength_7 : decode prog_44_method_27_code 7 = .ok (.istore_n 3, 1) := by decide +kernel
theorem d_ArraysSupport_newLength_8 : decode prog_44_method_27_code 8 = .ok (.iconst 0, 1) := by decide +kernel
theorem d_ArraysSupport_newLength_9 : decode prog_44_method_27_code 9 = .ok (.iload_n 3, 1) := by decide +kernel
theorem d_ArraysSupport_newLength_10 : decode prog_44_method_27_code 10 = .ok (.if_icmp .ge 11, 3) := by decide +kernel
theorem d_ArraysSupport_newLength_13 : decode prog_44_method_27_code 13 = .ok (.iload_n 3, 1) := by decide +kernel
theorem d_ArraysSupport_newLength_14 : decode prog_44_method_27_code 14 = .ok (.ldc 200, 2) := by decide +kernel
theorem d_ArraysSupport_newLength_16 : decode prog_44_method_27_code 16 = .ok (.if_icmp .gt 5, 3) := by decide +kernel
theorem d_ArraysSupport_newLength_19 : decode prog_44_method_27_code 19 = .ok (.iload_n 3, 1) := by decide +kernel
theorem d_ArraysSupport_newLength_20 : decode prog_44_method_27_code 20 = .ok (.ireturn, 1) := by decide +kernel
theorem w1458 : Cond.methodLink "jdk/internal/util/ArraysSupport" 194 ⟨"java/lang/Math", "max", "(II)I"⟩ ∈ aW := aw_of (tb_2 (List.mem_of_getElem? (i := 100) rfl)) rfl
theorem w1459 : Cond.constant "jdk/internal/util/ArraysSupport" 200 2147483639 ∈ aW := aw_of (tb_2 (List.mem_of_getElem? (i := 103) rfl)) rfl
set_option maxHeartbeats 4000000 in
set_option maxRecDepth 100000 in
theorem v_newLength (l : Launch) (D : va_G) (dA : Nat → ClassId) (sz : Nat) (a : Nat) (b : Nat) (k : Nat) (h1 : 1 ≤ b) (h2 : a ≤ 65536) (h3 : b ≤ 65536) (h4 : k ≤ 65536) : Met l ⟨"jdk/internal/util/ArraysSupport", "newLength", "(III)I"⟩ [Cond.code ⟨"jdk/internal/util/ArraysSupport", "newLength", "(III)I"⟩ prog_44_method_27_code 4 (some FieldType.int)] { frames := 1, cells := 0, slots := 0, locals := 14 } (pC D dA [.int (nI a), .int (nI b), .int (nI k)] ([]) sz) (va_Qi (fun (r9 : Int32) (u9 : Unit) => r9 = nI (a + max b k)) (fun (u9 : Unit) t9 => bW D (va_A ([]) sz) ([]) t9) (va_A ([]) sz)) 0 0 (va_A ([]) sz) := by
  refine mkC (y := ⟨"jdk/internal/util/ArraysSupport", "newLength", "(III)I"⟩) (cc := prog_44_method_27_code) (maxL := 4) (av := [.int (nI a), .int (nI b), .int (nI k)]) (ws := []) (sz := sz) (Qc := fun A => va_Qi (fun (r9 : Int32) (u9 : Unit) => r9 = nI (a + max b k)) (fun (u9 : Unit) t9 => bW D A ([]) t9) A) (by decide) (Nat.le_of_ble_eq_true rfl) ?_
  intro A p e s m below meth c ls hsz hB
  obtain ⟨hx, hb, hr, hml, hown, hin, hlk, hE, hK, hP, hD, hS, hA, hN, hl⟩ := hB
  have hown : s.vm.findClass "jdk/internal/util/ArraysSupport" = some m.cls := hown
  have hl : lv_has ls 4 [(0, .int (nI a)), (1, .int (nI b)), (2, .int (nI k))] := hl
  obtain ⟨H, hH⟩ : ∃ z, z = s.heap := ⟨_, rfl⟩
  have hP : va_P D vwCl ([]) H := by rw [hH]; exact hP
  have hS : va_S A s.heap H [] := by rw [hH]; exact hS
  rw [← hH]
  refine lv_iload_n hx hb d_ArraysSupport_newLength_0 rfl (lv_at hl 0 rfl) ?_
  refine lv_iload_n hx hb d_ArraysSupport_newLength_1 rfl (lv_at hl 1 rfl) ?_
  refine lv_iload_n hx hb d_ArraysSupport_newLength_2 rfl (lv_at hl 2 rfl) ?_
  refine va_mmax hx hb (hml.trans hl.1.symm) hown (hE.t w1458 rfl) (hE.t w764 rfl) (hE.t w549 rfl) (hE.t w765 rfl) (Nat.le_of_ble_eq_true rfl) (Nat.le_of_ble_eq_true rfl) (Nat.le_of_ble_eq_true rfl) (Nat.le_of_ble_eq_true rfl) d_ArraysSupport_newLength_3 (tpi (y := nI (max b k)) (nI_max (a := b) (b := k) (by omega) (by omega)) ?_)
  refine lv_iadd hx hb d_ArraysSupport_newLength_6 (tpi (y := nI (a + (max b k))) (nI_add (a) (max b k)) ?_)
  refine lv_istore_n hx hb d_ArraysSupport_newLength_7 rfl hl (by decide) rfl (fun ls hl => ?_)
  have hl : lv_has ls 4 [(3, .int (nI (a + (max b k)))), (0, .int (nI a)), (1, .int (nI b)), (2, .int (nI k))] := hl
  refine lv_iconst (v := 0) hx hb d_ArraysSupport_newLength_8 (by decide) ?_
  refine lv_iload_n hx hb d_ArraysSupport_newLength_9 rfl (lv_at hl 0 rfl) ?_
  refine lv_icmp_ge hx hb d_ArraysSupport_newLength_10 (tgt := 21) rfl (fun g1 => ?_) (fun g1 => ?_)
  · have g1 := (nI_leI (a := a + (max b k)) (b := 0) (by omega) (by omega)).mp g1; exfalso; omega
  have g1 := mt (nI_leI (a := a + (max b k)) (b := 0) (by omega) (by omega)).mpr g1
  refine lv_iload_n hx hb d_ArraysSupport_newLength_13 rfl (lv_at hl 0 rfl) ?_
  refine lv_ldc (v := 2147483639) hx hb hown (hE.t w1459 rfl) d_ArraysSupport_newLength_14 ?_
  refine lv_icmp_gt hx hb d_ArraysSupport_newLength_16 (tgt := 21) rfl (fun g2 => ?_) (fun g2 => ?_)
  · have g2 := (nI_ltI (a := 2147483639) (b := a + (max b k)) (by omega) (by omega)).mp g2; exfalso; omega
  have g2 := mt (nI_ltI (a := 2147483639) (b := a + (max b k)) (by omega) (by omega)).mpr g2
  refine lv_iload_n hx hb d_ArraysSupport_newLength_19 rfl (lv_at hl 0 rfl) ?_
  exact rfI hx hb hr hlk hS () rfl hP hD (Nat.le_of_ble_eq_true rfl) (Nat.le_of_ble_eq_true rfl) d_ArraysSupport_newLength_20
set_option maxHeartbeats 4000000 in
set_option maxRecDepth 100000 in
theorem v_Lgrow1_0 (l : Launch) (D : va_G) (dA : Nat → ClassId) (sz : Nat) (e0 mi : Nat) (ws : va_W) (a : Nat) (mc : Int32) : Met l ⟨"java/util/ArrayList", "grow", "(I)[Ljava/lang/Object;"⟩ [Cond.code ⟨"java/util/ArrayList", "grow", "(I)[Ljava/lang/Object;"⟩ prog_37_method_6_code 4 (some (FieldType.array (FieldType.object "java/lang/Object")))] { frames := 1, cells := 1, slots := 10, locals := 14 } (pCy D dA e0 mi [.ref a, .int 1] ([(a, .inr (6, [.ref e0, .int 0, .int mc]))] ++ (ws)) sz) (va_Qr (fun (_ : Unit) => True) (fun (u9 : Unit) (r9 : Nat) t9 => (True) ∧ bW D (va_A ([(a, .inr (6, [.ref e0, .int 0, .int mc]))] ++ (ws)) sz) ([(r9, .inl (dA 7, 10, .inr (.inr (.inr (.inr (fun _ => none))))))] ++ ([(a, .inr (6, [.ref r9, .int 0, .int mc]))] ++ (ws))) t9) (va_A ([(a, .inr (6, [.ref e0, .int 0, .int mc]))] ++ (ws)) sz)) 1 10 (va_A ([(a, .inr (6, [.ref e0, .int 0, .int mc]))] ++ (ws)) sz) := by
  refine mkY (y := ⟨"java/util/ArrayList", "grow", "(I)[Ljava/lang/Object;"⟩) (cc := prog_37_method_6_code) (maxL := 4) (av := [.ref a, .int 1]) (ws := [(a, .inr (6, [.ref e0, .int 0, .int mc]))] ++ (ws)) (sz := sz) (Qc := fun A => va_Qr (fun (_ : Unit) => True) (fun (u9 : Unit) (r9 : Nat) t9 => (True) ∧ bW D A ([(r9, .inl (dA 7, 10, .inr (.inr (.inr (.inr (fun _ => none))))))] ++ ([(a, .inr (6, [.ref r9, .int 0, .int mc]))] ++ (ws))) t9) A) (by decide) (Nat.le_of_ble_eq_true rfl) ?_
  intro A p e s m below meth c ls hsz hZ hT hM hB
  obtain ⟨hx, hb, hr, hml, hown, hin, hlk, hE, hK, hP, hD, hS, hA, hN, hl⟩ := hB
  have hown : s.vm.findClass "java/util/ArrayList" = some m.cls := hown
  have hl : lv_has ls 4 [(0, .ref a), (1, .int 1)] := hl
  obtain ⟨H, hH⟩ : ∃ z, z = s.heap := ⟨_, rfl⟩
  have hP : va_P D vwCl ([(a, .inr (6, [.ref e0, .int 0, .int mc]))] ++ (ws)) H := by rw [hH]; exact hP
  have hS : va_S A s.heap H [] := by rw [hH]; exact hS
  rw [← hH]
  refine lv_aload_n hx hb d_L_grow_6cd_0 rfl (lv_at hl 0 rfl) ?_
  refine gF (v := .ref e0) hx hb hown hE hK hP 0 rfl rfl layL 0 (by decide) w656 rfl d_L_grow_6cd_1 ?_
  refine va_tlen (v := 0) hx hb hT hS (by decide) d_L_grow_6cd_4 ?_
  refine lv_istore_n hx hb d_L_grow_6cd_5 rfl hl (by decide) rfl (fun ls hl => ?_)
  have hl : lv_has ls 4 [(2, .int 0), (0, .ref a), (1, .int 1)] := hl
  refine lv_iload_n hx hb d_L_grow_6cd_6 rfl (lv_at hl 0 rfl) ?_
  refine lv_if_gt hx hb d_L_grow_6cd_7 (tgt := 20) rfl (fun h9 => absurd h9 (by decide)) (fun _ => ?_)
  refine lv_aload_n hx hb d_L_grow_6cd_10 rfl (lv_at hl 1 rfl) ?_
  refine gF (v := .ref e0) hx hb hown hE hK hP 0 rfl rfl layL 0 (by decide) w656 rfl d_L_grow_6cd_11 ?_
  refine va_gets hx hb hZ hS hown (hE.t w762 rfl) (fun _ h => h) d_L_grow_6cd_14 ?_
  refine lv_acmp_eq (rx := some e0) (ry := some e0) hx hb d_L_grow_6cd_17 (tgt := 45) rfl (fun _ => ?_) (fun h9 => absurd rfl h9)
  refine lv_aload_n hx hb d_L_grow_6cd_45 rfl (lv_at hl 1 rfl) ?_
  refine lv_bipush (v := 10) hx hb d_L_grow_6cd_46 (by decide) ?_
  refine lv_iload_n hx hb d_L_grow_6cd_48 rfl (lv_at hl 2 rfl) ?_
  refine va_mmax hx hb (hml.trans hl.1.symm) hown (hE.t w763 rfl) (hE.t w764 rfl) (hE.t w549 rfl) (hE.t w765 rfl) (Nat.le_of_ble_eq_true rfl) (Nat.le_of_ble_eq_true rfl) (show 0 ≤ 1 by omega) (show 0 ≤ 10 by omega) d_L_grow_6cd_49 (tpi (y := nI (max 10 1)) (nI_max (a := 10) (b := 1) (by omega) (by omega)) ?_)
  refine tpi (y := 10) (by decide) ?_
  refine nnQ (N' := 10) hx hb hown hE w766 w767 hK hP hD hS hA 7 rfl (by omega) (show 10 * 4 ≤ 536870912 by omega) (show 0 + 1 ≤ 1 by omega) (show 0 + 10 ≤ 10 by omega) d_L_grow_6cd_52 (fun r9 H hP hD hS => ?_)
  have hP : va_P D vwCl ([(r9, .inl (dA 7, 10, .inr (.inr (.inr (.inr (fun _ => none))))))] ++ ([(a, .inr (6, [.ref e0, .int 0, .int mc]))] ++ (ws))) H := hP
  have hD : va_D A ([(r9, .inl (dA 7, 10, .inr (.inr (.inr (.inr (fun _ => none))))))] ++ ([(a, .inr (6, [.ref e0, .int 0, .int mc]))] ++ (ws))) := hD
  refine lv_dup_x1 hx hb d_L_grow_6cd_55 rfl rfl ?_
  refine pF (v := .ref r9) hx hb hown hE hK hP hD hS 1 rfl rfl layL tyL tokL nmL 0 (by decide) w656 rfl rfl rfl (Nat.le_of_ble_eq_true rfl) d_L_grow_6cd_56 (fun H locs hP hD hS => ?_)
  have hP : va_P D vwCl ([(r9, .inl (dA 7, 10, .inr (.inr (.inr (.inr (fun _ => none))))))] ++ ([(a, .inr (6, [.ref r9, .int 0, .int mc]))] ++ (ws))) H := hP
  have hD : va_D A ([(r9, .inl (dA 7, 10, .inr (.inr (.inr (.inr (fun _ => none))))))] ++ ([(a, .inr (6, [.ref r9, .int 0, .int mc]))] ++ (ws))) := hD
  exact rkR hx hb hr (Or.inr ⟨_, rfl⟩) hlk hS () trivial hP hD (show 0 + 1 ≤ 1 by omega) (show 0 + 10 ≤ 10 by omega) d_L_grow_6cd_59
set_option maxHeartbeats 4000000 in
set_option maxRecDepth 100000 in
theorem v_Lgrow_0 (l : Launch) (D : va_G) (dA : Nat → ClassId) (sz : Nat) (e0 mi : Nat) (ws : va_W) (a : Nat) (mc : Int32) : Met l ⟨"java/util/ArrayList", "grow", "()[Ljava/lang/Object;"⟩ [Cond.code ⟨"java/util/ArrayList", "grow", "()[Ljava/lang/Object;"⟩ prog_37_method_7_code 1 (some (FieldType.array (FieldType.object "java/lang/Object")))] { frames := 2, cells := 1, slots := 10, locals := 37 } (pCy D dA e0 mi [.ref a] ([(a, .inr (6, [.ref e0, .int 0, .int mc]))] ++ (ws)) sz) (va_Qr (fun (_ : Unit) => True) (fun (u9 : Unit) (r9 : Nat) t9 => (True) ∧ bW D (va_A ([(a, .inr (6, [.ref e0, .int 0, .int mc]))] ++ (ws)) sz) ([(r9, .inl (dA 7, 10, .inr (.inr (.inr (.inr (fun _ => none))))))] ++ ([(a, .inr (6, [.ref r9, .int 0, .int mc]))] ++ (ws))) t9) (va_A ([(a, .inr (6, [.ref e0, .int 0, .int mc]))] ++ (ws)) sz)) 1 10 (va_A ([(a, .inr (6, [.ref e0, .int 0, .int mc]))] ++ (ws)) sz) := by
  refine mkY (y := ⟨"java/util/ArrayList", "grow", "()[Ljava/lang/Object;"⟩) (cc := prog_37_method_7_code) (maxL := 1) (av := [.ref a]) (ws := [(a, .inr (6, [.ref e0, .int 0, .int mc]))] ++ (ws)) (sz := sz) (Qc := fun A => va_Qr (fun (_ : Unit) => True) (fun (u9 : Unit) (r9 : Nat) t9 => (True) ∧ bW D A ([(r9, .inl (dA 7, 10, .inr (.inr (.inr (.inr (fun _ => none))))))] ++ ([(a, .inr (6, [.ref r9, .int 0, .int mc]))] ++ (ws))) t9) A) (by decide) (Nat.le_of_ble_eq_true rfl) ?_
  intro A p e s m below meth c ls hsz hZ hT hM hB
  obtain ⟨hx, hb, hr, hml, hown, hin, hlk, hE, hK, hP, hD, hS, hA, hN, hl⟩ := hB
  have hown : s.vm.findClass "java/util/ArrayList" = some m.cls := hown
  have hl : lv_has ls 1 [(0, .ref a)] := hl
  obtain ⟨H, hH⟩ : ∃ z, z = s.heap := ⟨_, rfl⟩
  have hP : va_P D vwCl ([(a, .inr (6, [.ref e0, .int 0, .int mc]))] ++ (ws)) H := by rw [hH]; exact hP
  have hS : va_S A s.heap H [] := by rw [hH]; exact hS
  rw [← hH]
  refine lv_aload_n hx hb d_L_grow_d81_0 rfl (lv_at hl 0 rfl) ?_
  refine lv_aload_n hx hb d_L_grow_d81_1 rfl (lv_at hl 0 rfl) ?_
  refine gF (v := .int 0) hx hb hown hE hK hP 0 rfl rfl layL 1 (by decide) w657 rfl d_L_grow_d81_2 ?_
  refine lv_iconst (v := 1) hx hb d_L_grow_d81_5 (by decide) ?_
  refine lv_iadd hx hb d_L_grow_d81_6 (tpi (y := 1) (by decide) ?_)
  refine tpi (y := 1) (by decide) ?_
  refine jkR (wr := []) (rnVy (As := [.int 1]) (rest := []) hx hb hml hown hE hK hZ hT hM hS (hN _ _ hS) hP hD (v_Lgrow1_0 l D dA H.size e0 mi ws a mc) (q0 := 0) rfl rfl w769 w768 w770 w771 w680 rfl rfl ⟨⟨by decide, by decide⟩, rfl⟩ ⟨(Nat.le_of_ble_eq_true rfl), (Nat.le_of_ble_eq_true rfl)⟩ rfl hl.1 rfl (Nat.le_of_ble_eq_true rfl) d_L_grow_d81_7 ⟨(show 0 + 1 ≤ 1 by omega), (show 0 + 10 ≤ 10 by omega)⟩) hP hD hS hA (fun u1 r9 H locs hp9 hP hD hS => ?_)
  have hP : va_P D vwCl ([(r9, .inl (dA 7, 10, .inr (.inr (.inr (.inr (fun _ => none))))))] ++ ([(a, .inr (6, [.ref r9, .int 0, .int mc]))] ++ (ws))) H := hP
  have hD : va_D A ([(r9, .inl (dA 7, 10, .inr (.inr (.inr (.inr (fun _ => none))))))] ++ ([(a, .inr (6, [.ref r9, .int 0, .int mc]))] ++ (ws))) := hD
  exact rkR hx hb hr (Or.inr ⟨_, rfl⟩) hlk hS () trivial hP hD (show 0 + 1 ≤ 1 by omega) (show 0 + 10 ≤ 10 by omega) d_L_grow_d81_10
