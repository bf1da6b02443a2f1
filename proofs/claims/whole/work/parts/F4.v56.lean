/-! Methods that read the question's string literals: they lie in the first heap, kA their objects, vA their arrays. -/
def qsIx : List Nat := [110, 112, 114, 116, 118, 120, 122, 95]
def qsTx : List String := ["sum", "count", "least", "most", "first", "latest", "growth", "by"]
def qsLen : List Nat := [3, 5, 5, 4, 5, 6, 6, 2]
def qsByt : List (List Int32) := [[115, 117, 109], [99, 111, 117, 110, 116], [108, 101, 97, 115, 116], [109, 111, 115, 116], [102, 105, 114, 115, 116], [108, 97, 116, 101, 115, 116], [103, 114, 111, 119, 116, 104], [98, 121]]
/-- the letters of literal i -/
def qsW (i : Nat) : List Int32 := qsByt.getD i []
theorem qs_all : ∀ i, i < 8 → (qsLen.getD i 0 = (qsW i).length ∧ (qsW i).length ≤ 6 ∧ ∀ b ∈ qsW i, ((b &&& 255).toUInt32 % 65536).toInt32 = b ∧ narrow .char (.int b) = .int b) := by decide
def qS (kA vA : Nat → Nat) (fm : Nat) (A : Nat → Prop) (U : State) (H : Heap) : Prop :=
  vk_S 8 qsLen qsByt kA vA A U H ∧ va_Z "java/lang/String" "COMPACT_STRINGS" "Z" (.int 1) A U H ∧ va_Z "jdk/internal/util/Preconditions" "SIOOBE_FORMATTER" "Ljava/util/function/BiFunction;" (.ref fm) A U H ∧ ∀ i, i < 8 → vk_R "SeriesVault$Question" (qsIx.getD i 0) (qsTx.getD i "") (kA i) U
def pCs (D : va_G) (dA : Nat → ClassId) (e0 mi : Nat) (kA vA : Nat → Nat) (fm : Nat) (av : List Value) (ws : va_W) (sz : Nat) : Array Value → State → Prop := fun a U => pCy D dA e0 mi av ws sz a U ∧ qS kA vA fm (fun _ => False) U U.heap ∧ ∀ i, i < 8 → ¬ va_A ws sz (kA i) ∧ ¬ va_A ws sz (vA i)
theorem pCs_blind {D : va_G} {dA : Nat → ClassId} {e0 mi : Nat} {kA vA : Nat → Nat} {fm : Nat} {av : List Value} {ws : va_W} {sz : Nat} : FrameBlind (pCs D dA e0 mi kA vA fm av ws sz) := by
  intro a U g mk q
  obtain ⟨q0, ⟨q1, q2, q3, q4⟩, q5⟩ := q
  exact ⟨pCy_blind a U g mk q0, ⟨vk_S.moved (u := U) (U := U.calling g mk a) (Vm.Alike.refl U.vm) q1, va_Z.moved (u := U) (U := U.calling g mk a) (Vm.Alike.refl U.vm) q2, va_Z.moved (u := U) (U := U.calling g mk a) (Vm.Alike.refl U.vm) q3, fun i hi => vk_R.same (u := U) (U := U.calling g mk a) rfl (q4 i hi)⟩, q5⟩
theorem Z_in {C n d : String} {v : Value} {D : va_G} {ws : va_W} {sz : Nat} {s : State} (hP : va_P D vwCl ws s.heap) (hsz : s.heap.size = sz) (h : va_Z C n d v (fun _ => False) s s.heap) : va_Z C n d v (va_A ws sz) s s.heap := by
  obtain ⟨cf, kf, fi, f, a, cell, h1, h2, h3, h4, h5, h6, h7, -⟩ := h
  refine ⟨cf, kf, fi, f, a, cell, h1, h2, h3, h4, h5, h6, h7, fun hq => ?_⟩
  subst hsz
  have h8 := ns_A hP hq h5
  rw [h6] at h8
  cases h8
theorem S_in {ws : va_W} {sz : Nat} {kA vA : Nat → Nat} {s : State} (hn : ∀ i, i < 8 → ¬ va_A ws sz (kA i) ∧ ¬ va_A ws sz (vA i)) (h : vk_S 8 qsLen qsByt kA vA (fun _ => False) s s.heap) : vk_S 8 qsLen qsByt kA vA (va_A ws sz) s s.heap := by
  refine ⟨fun i hi => ?_, h.2⟩
  obtain ⟨⟨c1, a1, a2, a3, -⟩, ⟨cf, k, j, f, c2, b1, b2, b3, b4, b5, -⟩, ⟨cg, k', j', f', c3, d1, d2, d3, d4, d5, -⟩, c4, e1, e2, e3, e4, e5, e6, -⟩ := h.1 i hi
  obtain ⟨n1, n2⟩ := hn i hi
  exact ⟨⟨c1, a1, a2, a3, n1⟩, ⟨cf, k, j, f, c2, b1, b2, b3, b4, b5, n1⟩, ⟨cg, k', j', f', c3, d1, d2, d3, d4, d5, n1⟩, c4, e1, e2, e3, e4, e5, e6, n2⟩
section RS
variable {p : Program} {l : Launch} {e : Env} {R : Room} {s : State} {m : MethodId} {args : Array Value} {below : List Frame} {meth : Method} {c : Code} {H : Heap} {locs : List Loc} {cells slots : Nat} {Q : State → Prop}
variable {D : va_G} {dA : Nat → ClassId} {A : Nat → Prop} {cc : ByteArray} {pc : Nat} {ls : Array Slot} {rest st0 : List Value} {ws wc wr : va_W} {e0 mi a : Nat} {kA vA : Nat → Nat} {fm : Nat}
theorem pre_s {av : List Value} (hE : eV s) (hK : va_K D vwCl (arT dA) s) (hZ : zZ e0 A s s.heap) (hT : zT e0 A s s.heap) (hMi : va_Mi "[Ljava/lang/Object;" mi s) (hQ : qS kA vA fm A s s.heap) (hS : va_S A s.heap H locs) (hN : sK s.heap H) (hP : va_P D vwCl wc H) (hD : va_D A wc) : ∀ U : State, U.heap = H → s.WarmedH U.vm → pCs D dA e0 mi kA vA fm av wc H.size av.toArray U := by
  intro U hU hW
  have hk : ∀ a : Nat, a < s.heap.size → ¬ A a → U.heap[a]? = s.heap[a]? := fun a h1 h2 => by rw [hU]; exact hS.2.1 a h1 h2
  refine ⟨pre_y hE hK hZ hT hMi hS hN hP hD U hU hW, ⟨?_, ?_, ?_, ?_⟩, ?_⟩
  · exact vk_S.moved (u := s) (U := U) hW.alike (vk_S.narrow (vk_S.kept hQ.1 hk) (fun _ h => h.elim))
  · exact va_Z.moved (u := s) (U := U) hW.alike (va_Z.narrow (va_Z.kept hQ.2.1 hk) (fun _ h => h.elim))
  · exact va_Z.moved (u := s) (U := U) hW.alike (va_Z.narrow (va_Z.kept hQ.2.2.1 hk) (fun _ h => h.elim))
  · exact fun i hi => vk_R.warm hW (hQ.2.2.2 i hi)
  · intro i hi
    obtain ⟨⟨c1, a1, -, -, a4⟩, -, -, c4, e1, -, -, -, -, -, e7⟩ := hQ.1.1 i hi
    have h3 := hS.1
    refine ⟨fun hq => ?_, fun hq => ?_⟩
    · have h2 := (Array.getElem?_eq_some_iff.mp a1).1
      rcases hq with ⟨k, q, h⟩ | h
      · exact a4 (hD.2 k _ h)
      · omega
    · have h2 := (Array.getElem?_eq_some_iff.mp e1).1
      rcases hq with ⟨k, q, h⟩ | h
      · exact e7 (hD.2 k _ h)
      · omega
theorem rnVs {y : MethodName} {bytes : ByteArray} {maxL mc ms n index nL : Nat} {ret : Option FieldType} {rm : Room} {Qc : Array Value → State → Outcome → State → Prop} {free : Addr → Prop} {own C : String} {T : u_T} {N ci q0 : Nat} {fs : List Value} {b : Nat} {As : List Value}
    (hx : p.tables.exec = Jvm.exec) (hb : c.code = cc) (hml : c.maxLocals = nL) (hown : s.vm.findClass own = some m.cls) (hE : eV s) (hK : va_K D vwCl (arT dA) s) (hZ : zZ e0 A s s.heap) (hT : zT e0 A s s.heap) (hMi : va_Mi "[Ljava/lang/Object;" mi s) (hQ : qS kA vA fm A s s.heap) (hS : va_S A s.heap H locs) (hN : sK s.heap H) (hP : va_P D vwCl wc H) (hD : va_D A wc)
    (hM : Met l y [Cond.code y bytes maxL ret] rm (pCs D dA e0 mi kA vA fm (.ref b :: As) wc H.size) Qc mc ms free) (he : wc[q0]? = some (b, .inr (ci, fs))) (hcl : vwCl[ci]? = some (C, T, N))
    (hc : Cond.code y bytes maxL ret ∈ aW) (hl : Cond.methodLink own index y ∈ aW) (hi : Cond.instanceMethod y ∈ aW) (hse : Cond.selects C y y ∈ aW) (hini : Cond.initialized y.cls ∈ aW) (hrc : rm.cells = mc) (hrs : rm.slots = ms)
    (hd : (y.cls ≠ "java/lang/invoke/MethodHandle" ∧ y.cls ≠ "java/lang/invoke/VarHandle") ∧ (parseMethodDescriptor y.desc).map (fun d => d.parameters.length) = some n) (hR : rm.frames + 1 ≤ R.frames ∧ 8 + (maxL + 11) + rm.locals ≤ R.locals)
    (hn : As.length = n) (hsize : ls.size = nL) (hst : st0 = As.reverse ++ .ref b :: rest) (hW : (rest.map fun v => v.category).sum ≤ 8) (hdg : decode cc pc = .ok (.invokevirtual index, 3)) (hf : cells + mc ≤ R.cells ∧ slots + ms ≤ R.slots) :
    va_Run p l e R s m args below meth c H locs cells slots mc ms (F0 m pc ls st0) rest (Qc (Value.ref b :: As).toArray) free :=
  va_runV (Ts := []) ⟨hx, hb, hml, hown, fun _ h => nomatch h⟩ hM ⟨cB_1 hE hc hl hini hrc hrs hd hR, hE.t hi rfl, hE.t hse rfl⟩ ⟨pCs_blind, va_recv hK hP hcl he, pre_s hE hK hZ hT hMi hQ hS hN hP hD⟩ rfl hn hsize hst (lv_room hW) hdg hf
/-- of a literal -/
theorem rnVq {y : MethodName} {bytes : ByteArray} {maxL mc ms n index nL i : Nat} {ret : Option FieldType} {rm : Room} {Qc : Array Value → State → Outcome → State → Prop} {free : Addr → Prop} {own : String} {As : List Value}
    (hx : p.tables.exec = Jvm.exec) (hb : c.code = cc) (hml : c.maxLocals = nL) (hown : s.vm.findClass own = some m.cls) (hE : eV s) (hK : va_K D vwCl (arT dA) s) (hZ : zZ e0 A s s.heap) (hT : zT e0 A s s.heap) (hMi : va_Mi "[Ljava/lang/Object;" mi s) (hQ : qS kA vA fm A s s.heap) (hS : va_S A s.heap H locs) (hN : sK s.heap H) (hP : va_P D vwCl wc H) (hD : va_D A wc)
    (hM : Met l y [Cond.code y bytes maxL ret] rm (pCs D dA e0 mi kA vA fm (.ref (kA i) :: As) wc H.size) Qc mc ms free) (hi8 : i < 8)
    (hc : Cond.code y bytes maxL ret ∈ aW) (hl : Cond.methodLink own index y ∈ aW) (hi : Cond.instanceMethod y ∈ aW) (hse : Cond.selects "java/lang/String" y y ∈ aW) (hini : Cond.initialized y.cls ∈ aW) (hrc : rm.cells = mc) (hrs : rm.slots = ms)
    (hd : (y.cls ≠ "java/lang/invoke/MethodHandle" ∧ y.cls ≠ "java/lang/invoke/VarHandle") ∧ (parseMethodDescriptor y.desc).map (fun d => d.parameters.length) = some n) (hR : rm.frames + 1 ≤ R.frames ∧ 8 + (maxL + 11) + rm.locals ≤ R.locals)
    (hn : As.length = n) (hsize : ls.size = nL) (hst : st0 = As.reverse ++ .ref (kA i) :: rest) (hW : (rest.map fun v => v.category).sum ≤ 8) (hdg : decode cc pc = .ok (.invokevirtual index, 3)) (hf : cells + mc ≤ R.cells ∧ slots + ms ≤ R.slots) :
    va_Run p l e R s m args below meth c H locs cells slots mc ms (F0 m pc ls st0) rest (Qc (Value.ref (kA i) :: As).toArray) free :=
  va_runV (Ts := []) ⟨hx, hb, hml, hown, fun _ h => nomatch h⟩ hM ⟨cB_1 hE hc hl hini hrc hrs hd hR, hE.t hi rfl, hE.t hse rfl⟩ ⟨pCs_blind, vk_recv hQ.1 hi8 hS, pre_s hE hK hZ hT hMi hQ hS hN hP hD⟩ rfl hn hsize hst (lv_room hW) hdg hf
theorem rnIs {y : MethodName} {bytes : ByteArray} {maxL mc ms n index nL : Nat} {rm : Room} {Qc : Array Value → State → Outcome → State → Prop} {free : Addr → Prop} {own : String} {b : Nat} {As : List Value}
    (hx : p.tables.exec = Jvm.exec) (hb : c.code = cc) (hml : c.maxLocals = nL) (hown : s.vm.findClass own = some m.cls) (hE : eV s) (hK : va_K D vwCl (arT dA) s) (hZ : zZ e0 A s s.heap) (hT : zT e0 A s s.heap) (hMi : va_Mi "[Ljava/lang/Object;" mi s) (hQ : qS kA vA fm A s s.heap) (hS : va_S A s.heap H locs) (hN : sK s.heap H) (hP : va_P D vwCl wc H) (hD : va_D A wc)
    (hM : Met l y [Cond.code y bytes maxL none] rm (pCs D dA e0 mi kA vA fm (.ref b :: As) wc H.size) Qc mc ms free)
    (hc : Cond.code y bytes maxL none ∈ aW) (hl : Cond.methodLink own index y ∈ aW) (hi : Cond.instanceMethod y ∈ aW) (hini : Cond.initialized y.cls ∈ aW) (hy : y.name = "<init>") (hrc : rm.cells = mc) (hrs : rm.slots = ms)
    (hd : (y.cls ≠ "java/lang/invoke/MethodHandle" ∧ y.cls ≠ "java/lang/invoke/VarHandle") ∧ (parseMethodDescriptor y.desc).map (fun d => d.parameters.length) = some n) (hR : rm.frames + 1 ≤ R.frames ∧ 8 + (maxL + 11) + rm.locals ≤ R.locals)
    (hn : As.length = n) (hsize : ls.size = nL) (hst : st0 = As.reverse ++ .ref b :: rest) (hW : (rest.map fun v => v.category).sum ≤ 8) (hdg : decode cc pc = .ok (.invokespecial index, 3)) (hf : cells + mc ≤ R.cells ∧ slots + ms ≤ R.slots) :
    va_Run p l e R s m args below meth c H locs cells slots mc ms (F0 m pc ls st0) rest (Qc (Value.ref b :: As).toArray) free :=
  va_runI (Ts := []) ⟨hx, hb, hml, hown, fun _ h => nomatch h⟩ hM ⟨cB_1 hE hc hl hini hrc hrs hd hR, hy, hE.t hi rfl⟩ ⟨pCs_blind, pre_s hE hK hZ hT hMi hQ hS hN hP hD⟩ rfl hn hsize hst (lv_room hW) hdg hf
theorem rnSs {y : MethodName} {bytes : ByteArray} {maxL mc ms n index nL : Nat} {ret : Option FieldType} {rm : Room} {Qc : Array Value → State → Outcome → State → Prop} {free : Addr → Prop} {own : String} {As : List Value}
    (hx : p.tables.exec = Jvm.exec) (hb : c.code = cc) (hml : c.maxLocals = nL) (hown : s.vm.findClass own = some m.cls) (hE : eV s) (hK : va_K D vwCl (arT dA) s) (hZ : zZ e0 A s s.heap) (hT : zT e0 A s s.heap) (hMi : va_Mi "[Ljava/lang/Object;" mi s) (hQ : qS kA vA fm A s s.heap) (hS : va_S A s.heap H locs) (hN : sK s.heap H) (hP : va_P D vwCl wc H) (hD : va_D A wc)
    (hM : Met l y [Cond.code y bytes maxL ret] rm (pCs D dA e0 mi kA vA fm As wc H.size) Qc mc ms free)
    (hc : Cond.code y bytes maxL ret ∈ aW) (hl : Cond.methodLink own index y ∈ aW) (hstat : Cond.static y ∈ aW) (hini : Cond.initialized y.cls ∈ aW) (hrc : rm.cells = mc) (hrs : rm.slots = ms)
    (hd : (y.cls ≠ "java/lang/invoke/MethodHandle" ∧ y.cls ≠ "java/lang/invoke/VarHandle") ∧ (parseMethodDescriptor y.desc).map (fun d => d.parameters.length) = some n) (hR : rm.frames + 1 ≤ R.frames ∧ 8 + (maxL + 11) + rm.locals ≤ R.locals)
    (hn : As.length = n) (hsize : ls.size = nL) (hst : st0 = As.reverse ++ rest) (hW : (rest.map fun v => v.category).sum ≤ 8) (hdg : decode cc pc = .ok (.invokestatic index, 3)) (hf : cells + mc ≤ R.cells ∧ slots + ms ≤ R.slots) :
    va_Run p l e R s m args below meth c H locs cells slots mc ms (F0 m pc ls st0) rest (Qc As.toArray) free :=
  va_runS (Ts := []) ⟨hx, hb, hml, hown, fun _ h => nomatch h⟩ hM ⟨cB_1 hE hc hl hini hrc hrs hd hR, hE.t hstat rfl⟩ ⟨pCs_blind, pre_s hE hK hZ hT hMi hQ hS hN hP hD⟩ rfl hn hsize hst (lv_room hW) hdg hf
/-- a byte or a char given back -/
theorem rfN {S : Type} {ty : FieldType} {post : Int32 → S → Prop} {w1 : S → va_W} {mc ms : Nat} {x : Int32} (hx : p.tables.exec = Jvm.exec) (hb : c.code = cc) (hr : meth.sig.returnType = some ty) (hz : narrow ty (.int x) = .int x) (hlk : meth.locks = false) (hS : va_S A s.heap H locs) (u : S) (hp : post x u) (hP : va_P D vwCl (w1 u) H) (hD : va_D A (w1 u)) (hc : cells ≤ mc) (hsl : slots ≤ ms) (hdg : decode cc pc = .ok (.ireturn, 1)) :
    W p l e R s m args below meth c H locs cells slots (MQ below (va_Qi post (fun u t => bW D A (w1 u) t) A) args s mc ms A) (F0 m pc ls [.int x]) :=
  W.widen hc hsl (W.zret hx hb hr hz (fun t ht _ => ⟨⟨x, u, rfl, hp, by rw [ht]; exact hP, hD⟩, hS.F ht⟩) hS.2.2 hdg hlk)
end RS
theorem mkS {l : Launch} {y : MethodName} {cc : ByteArray} {maxL : Nat} {ret : Option FieldType} {rm : Room} {D : va_G} {dA : Nat → ClassId} {e0 mi : Nat} {kA vA : Nat → Nat} {fm : Nat} {av : List Value} {ws : va_W} {sz mc ms : Nat} {Qc : (Nat → Prop) → Array Value → State → Outcome → State → Prop}
    (hy : plainName y.cls = true) (hlen : (lg_sl av).length ≤ maxL)
    (body : ∀ (A : Nat → Prop) (p : Program) (e : Env) (s : State) (m : MethodId) (below : List Frame) (meth : Method) (c : Code) (ls : Array Slot), s.heap.size = sz → zZ e0 A s s.heap → zT e0 A s s.heap → va_Mi "[Ljava/lang/Object;" mi s → qS kA vA fm A s s.heap → bS p s m meth c cc ret maxL y D dA ws A av ls →
      W p l e rm s m av.toArray below meth c s.heap [] 0 0 (MQ below (Qc A) av.toArray s mc ms A) (F0 m 0 ls [])) :
    Met l y [Cond.code y cc maxL ret] rm (pCs D dA e0 mi kA vA fm av ws sz) (Qc (va_A ws sz)) mc ms (va_A ws sz) := by
  refine Met.ofW (cc := cc) (maxL := maxL) (ret := ret) hy rfl ?_
  intro p e s m args below meth c s₁ B hml hv
  obtain ⟨⟨⟨⟨rfl, hsz, hP, hK, hD0, hE⟩, hZ, hT, hn⟩, hMi⟩, hQ, hn2⟩ := hv
  have hA : ∀ q : Nat, s.heap.size ≤ q → va_A ws sz q := fun q h => by rw [← hsz]; exact Or.inr h
  have hl := lv_entry av (n := maxL) hlen
  rw [lg_entry_eq]
  exact body (va_A ws sz) p e s m below meth c _ hsz (zZ_in hP hsz hZ) (zT_in hn hT) hMi ⟨S_in hn2 hQ.1, Z_in hP hsz hQ.2.1, Z_in hP hsz hQ.2.2.1, hQ.2.2.2⟩ ⟨B.exec, B.bytes, B.returns, hml, findClass_of_methodNamed B.named, (name_of_methodNamed B.named B.method).1, B.notSynchronized, hE, hK, hP, hD0.self, va_S.rf, hA, fun H L h => by subst hsz; exact sK_of hP h, hl⟩
theorem sc_shr00 {a : Nat} (h : a < 2 ^ 31) : nI a >>> ((0 : Int32) &&& 31) = nI a := by
  rw [show ((0 : Int32) &&& 31) = 0 by decide]
  apply Int32.toBitVec_inj.mp
  rw [Int32.toBitVec_shiftRight]
  show (BitVec.ofNat 32 a).sshiftRight' ((0#32).smod 32#32) = BitVec.ofNat 32 a
  rw [show (0#32).smod 32#32 = 0#32 by decide]
  show (BitVec.ofNat 32 a).sshiftRight 0 = _
  exact BitVec.sshiftRight_zero
theorem qs_at {i k : Nat} (hi : i < 8) (hk : k < (qsW i).length) : ((((qsW i).getD k 0) &&& 255).toUInt32 % 65536).toInt32 = (qsW i).getD k 0 ∧ narrow .char (.int ((qsW i).getD k 0)) = .int ((qsW i).getD k 0) := by
  have h := (qs_all i hi).2.2 ((qsW i).getD k 0) (by rw [List.getD_eq_getElem?_getD, List.getElem?_eq_getElem hk]; exact List.getElem_mem hk)
  exact h
set_option maxHeartbeats 4000000 in
set_option maxRecDepth 100000 in
theorem v_preIndexR (l : Launch) (D : va_G) (dA : Nat → ClassId) (sz : Nat) (a : Nat) (n : Nat) (fq : Nat) (h1 : a < n) (h2 : n ≤ 65536) : Met l ⟨"jdk/internal/util/Preconditions", "checkIndex", "(IILjava/util/function/BiFunction;)I"⟩ [Cond.code ⟨"jdk/internal/util/Preconditions", "checkIndex", "(IILjava/util/function/BiFunction;)I"⟩ prog_45_method_11_code 3 (some FieldType.int)] { frames := 1, cells := 0, slots := 0, locals := 0 } (pC D dA [.int (nI a), .int (nI n), .ref fq] ([]) sz) (va_Qi (fun (r9 : Int32) (u9 : Unit) => r9 = nI a) (fun (u9 : Unit) t9 => bW D (va_A ([]) sz) ([]) t9) (va_A ([]) sz)) 0 0 (va_A ([]) sz) := by
  refine mkC (y := ⟨"jdk/internal/util/Preconditions", "checkIndex", "(IILjava/util/function/BiFunction;)I"⟩) (cc := prog_45_method_11_code) (maxL := 3) (av := [.int (nI a), .int (nI n), .ref fq]) (ws := []) (sz := sz) (Qc := fun A => va_Qi (fun (r9 : Int32) (u9 : Unit) => r9 = nI a) (fun (u9 : Unit) t9 => bW D A ([]) t9) A) (by decide) (Nat.le_of_ble_eq_true rfl) ?_
  intro A p e s m below meth c ls hsz hB
  obtain ⟨hx, hb, hr, hml, hown, hin, hlk, hE, hK, hP, hD, hS, hA, hN, hl⟩ := hB
  have hown : s.vm.findClass "jdk/internal/util/Preconditions" = some m.cls := hown
  have hl : lv_has ls 3 [(0, .int (nI a)), (1, .int (nI n)), (2, .ref fq)] := hl
  obtain ⟨H, hH⟩ : ∃ z, z = s.heap := ⟨_, rfl⟩
  have hP : va_P D vwCl ([]) H := by rw [hH]; exact hP
  have hS : va_S A s.heap H [] := by rw [hH]; exact hS
  rw [← hH]
  refine lv_iload_n hx hb d_Preconditions_checkIndex_0 rfl (lv_at hl 0 rfl) ?_
  refine lv_if_lt hx hb d_Preconditions_checkIndex_1 (tgt := 9) rfl (fun h9 => absurd h9 (nI_pos (n := a) (by omega))) (fun _ => ?_)
  refine lv_iload_n hx hb d_Preconditions_checkIndex_4 rfl (lv_at hl 0 rfl) ?_
  refine lv_iload_n hx hb d_Preconditions_checkIndex_5 rfl (lv_at hl 1 rfl) ?_
  refine lv_icmp_lt hx hb d_Preconditions_checkIndex_6 (tgt := 16) rfl (fun _ => ?_) (fun h9 => absurd ((nI_ltI (a := a) (b := n) (by omega) (by omega)).mpr h1) h9)
  refine lv_iload_n hx hb d_Preconditions_checkIndex_16 rfl (lv_at hl 0 rfl) ?_
  exact rfI hx hb hr hlk hS () rfl hP hD (Nat.le_of_ble_eq_true rfl) (Nat.le_of_ble_eq_true rfl) d_Preconditions_checkIndex_17
theorem d_String_checkIndex_0 : decode prog_28_method_155_code 0 = .ok (.iload_n 0, 1) := by decide +kernel
theorem d_String_checkIndex_1 : decode prog_28_method_155_code 1 = .ok (.iload_n 1, 1) := by decide +kernel
theorem d_String_checkIndex_2 : decode prog_28_method_155_code 2 = .ok (.getstatic 1053, 3) := by decide +kernel
theorem d_String_checkIndex_5 : decode prog_28_method_155_code 5 = .ok (.invokestatic 1059, 3) := by decide +kernel
theorem d_String_checkIndex_8 : decode prog_28_method_155_code 8 = .ok (.pop, 1) := by decide +kernel
theorem d_String_checkIndex_9 : decode prog_28_method_155_code 9 = .ok (.return_, 1) := by decide +kernel
theorem w1590 : Cond.fieldLink "java/lang/String" 1053 "jdk/internal/util/Preconditions" "SIOOBE_FORMATTER" "Ljava/util/function/BiFunction;" ∈ aW := aw_of (tb_4 (List.mem_of_getElem? (i := 78) rfl)) rfl
theorem w1591 : Cond.methodLink "java/lang/String" 1059 ⟨"jdk/internal/util/Preconditions", "checkIndex", "(IILjava/util/function/BiFunction;)I"⟩ ∈ aW := aw_of (tb_7 (List.mem_of_getElem? (i := 74) rfl)) rfl
set_option maxHeartbeats 4000000 in
set_option maxRecDepth 100000 in
theorem v_Sindex (l : Launch) (D : va_G) (dA : Nat → ClassId) (sz : Nat) (e0 mi : Nat) (kA vA : Nat → Nat) (fm : Nat) (ws : va_W) (a : Nat) (n : Nat) (h1 : a < n) (h2 : n ≤ 65536) : Met l ⟨"java/lang/String", "checkIndex", "(II)V"⟩ [Cond.code ⟨"java/lang/String", "checkIndex", "(II)V"⟩ prog_28_method_155_code 2 none] { frames := 2, cells := 0, slots := 0, locals := 22 } (pCs D dA e0 mi kA vA fm [.int (nI a), .int (nI n)] (ws) sz) (va_Qv (fun (u9 : Unit) => True) (fun (u9 : Unit) t9 => bW D (va_A (ws) sz) (ws) t9) (va_A (ws) sz)) 0 0 (va_A (ws) sz) := by
  refine mkS (y := ⟨"java/lang/String", "checkIndex", "(II)V"⟩) (cc := prog_28_method_155_code) (maxL := 2) (av := [.int (nI a), .int (nI n)]) (ws := ws) (sz := sz) (Qc := fun A => va_Qv (fun (u9 : Unit) => True) (fun (u9 : Unit) t9 => bW D A (ws) t9) A) (by decide) (Nat.le_of_ble_eq_true rfl) ?_
  intro A p e s m below meth c ls hsz hZ hT hM hQ hB
  obtain ⟨hx, hb, hr, hml, hown, hin, hlk, hE, hK, hP, hD, hS, hA, hN, hl⟩ := hB
  have hown : s.vm.findClass "java/lang/String" = some m.cls := hown
  have hl : lv_has ls 2 [(0, .int (nI a)), (1, .int (nI n))] := hl
  obtain ⟨H, hH⟩ : ∃ z, z = s.heap := ⟨_, rfl⟩
  have hP : va_P D vwCl (ws) H := by rw [hH]; exact hP
  have hS : va_S A s.heap H [] := by rw [hH]; exact hS
  rw [← hH]
  refine lv_iload_n hx hb d_String_checkIndex_0 rfl (lv_at hl 0 rfl) ?_
  refine lv_iload_n hx hb d_String_checkIndex_1 rfl (lv_at hl 1 rfl) ?_
  refine va_gets hx hb hQ.2.2.1 hS hown (hE.t w1590 rfl) (fun _ h => h) d_String_checkIndex_2 ?_
  have hPc := hP.sub (ws' := []) [] rfl
  have hDc := hD.sub (ws' := []) [] (by decide) rfl
  refine jpI (rnS (As := [.int (nI a), .int (nI n), .ref fm]) (rest := []) hx hb hml hown hE hK (hN _ _ hS) hPc hDc (v_preIndexR l D dA H.size a n fm (show a < n from by omega) (show n ≤ 65536 from by omega)) w1446 w1591 w1447 w1445 rfl rfl ⟨⟨by decide, by decide⟩, rfl⟩ ⟨(Nat.le_of_ble_eq_true rfl), (Nat.le_of_ble_eq_true rfl)⟩ rfl hl.1 rfl (Nat.le_of_ble_eq_true rfl) d_String_checkIndex_5 ⟨(Nat.le_of_ble_eq_true rfl), (Nat.le_of_ble_eq_true rfl)⟩) hP hD hS hA (fun r1 u9 H locs hp9 hP hD hS => ?_)
  have hP : va_P D vwCl (ws) H := hP
  have hD : va_D A (ws) := hD
  replace hp9 : nI a = r1 := Eq.symm hp9
  subst hp9
  refine lv_pop hx hb d_String_checkIndex_8 rfl ?_
  exact rfV hx hb hr hlk hS () trivial hP hD (Nat.le_of_ble_eq_true rfl) (Nat.le_of_ble_eq_true rfl) d_String_checkIndex_9
theorem d_String_coder_0 : decode prog_28_method_152_code 0 = .ok (.getstatic 38, 3) := by decide +kernel
theorem d_String_coder_3 : decode prog_28_method_152_code 3 = .ok (.ifCond .eq 10, 3) := by decide +kernel
theorem d_String_coder_6 : decode prog_28_method_152_code 6 = .ok (.aload_n 0, 1) := by decide +kernel
theorem d_String_coder_7 : decode prog_28_method_152_code 7 = .ok (.getfield 15, 3) := by decide +kernel
theorem d_String_coder_10 : decode prog_28_method_152_code 10 = .ok (.goto 4, 3) := by decide +kernel
theorem d_String_coder_14 : decode prog_28_method_152_code 14 = .ok (.ireturn, 1) := by decide +kernel
theorem w1592 : Cond.fieldLink "java/lang/String" 38 "java/lang/String" "COMPACT_STRINGS" "Z" ∈ aW := aw_of (tb_4 (List.mem_of_getElem? (i := 120) rfl)) rfl
theorem w1593 : Cond.fieldLink "java/lang/String" 15 "java/lang/String" "coder" "B" ∈ aW := aw_of (tb_4 (List.mem_of_getElem? (i := 197) rfl)) rfl
set_option maxHeartbeats 4000000 in
set_option maxRecDepth 100000 in
theorem v_Scoder (l : Launch) (D : va_G) (dA : Nat → ClassId) (sz : Nat) (e0 mi : Nat) (kA vA : Nat → Nat) (fm : Nat) (ws : va_W) (i : Nat) (hi : i < 8) : Met l ⟨"java/lang/String", "coder", "()B"⟩ [Cond.code ⟨"java/lang/String", "coder", "()B"⟩ prog_28_method_152_code 1 (some FieldType.byte)] { frames := 1, cells := 0, slots := 0, locals := 0 } (pCs D dA e0 mi kA vA fm [.ref (kA i)] (ws) sz) (va_Qi (fun (r9 : Int32) (u9 : Unit) => r9 = 0) (fun (u9 : Unit) t9 => bW D (va_A (ws) sz) (ws) t9) (va_A (ws) sz)) 0 0 (va_A (ws) sz) := by
  refine mkS (y := ⟨"java/lang/String", "coder", "()B"⟩) (cc := prog_28_method_152_code) (maxL := 1) (av := [.ref (kA i)]) (ws := ws) (sz := sz) (Qc := fun A => va_Qi (fun (r9 : Int32) (u9 : Unit) => r9 = 0) (fun (u9 : Unit) t9 => bW D A (ws) t9) A) (by decide) (Nat.le_of_ble_eq_true rfl) ?_
  intro A p e s m below meth c ls hsz hZ hT hM hQ hB
  obtain ⟨hx, hb, hr, hml, hown, hin, hlk, hE, hK, hP, hD, hS, hA, hN, hl⟩ := hB
  have hown : s.vm.findClass "java/lang/String" = some m.cls := hown
  have hl : lv_has ls 1 [(0, .ref (kA i))] := hl
  obtain ⟨H, hH⟩ : ∃ z, z = s.heap := ⟨_, rfl⟩
  have hP : va_P D vwCl (ws) H := by rw [hH]; exact hP
  have hS : va_S A s.heap H [] := by rw [hH]; exact hS
  rw [← hH]
  refine va_gets hx hb hQ.2.1 hS hown (hE.t w1592 rfl) (fun _ h => h) d_String_coder_0 ?_
  refine lv_if_eq hx hb d_String_coder_3 (tgt := 13) rfl (fun h9 => absurd h9 (by decide)) (fun _ => ?_)
  refine lv_aload_n hx hb d_String_coder_6 rfl (lv_at hl 0 rfl) ?_
  refine vk_getf hx hb (hQ.1.1 i hi).2.1 hS hown (hE.t w1593 rfl) (fun _ h => h) d_String_coder_7 ?_
  refine lv_goto hx hb d_String_coder_10 (tgt := 14) rfl ?_
  exact rfN hx hb hr (by decide) hlk hS () rfl hP hD (Nat.le_of_ble_eq_true rfl) (Nat.le_of_ble_eq_true rfl) d_String_coder_14
theorem d_String_isLatin1_0 : decode prog_28_method_154_code 0 = .ok (.getstatic 38, 3) := by decide +kernel
theorem d_String_isLatin1_3 : decode prog_28_method_154_code 3 = .ok (.ifCond .eq 14, 3) := by decide +kernel
theorem d_String_isLatin1_6 : decode prog_28_method_154_code 6 = .ok (.aload_n 0, 1) := by decide +kernel
theorem d_String_isLatin1_7 : decode prog_28_method_154_code 7 = .ok (.getfield 15, 3) := by decide +kernel
theorem d_String_isLatin1_10 : decode prog_28_method_154_code 10 = .ok (.ifCond .ne 7, 3) := by decide +kernel
theorem d_String_isLatin1_13 : decode prog_28_method_154_code 13 = .ok (.iconst 1, 1) := by decide +kernel
theorem d_String_isLatin1_14 : decode prog_28_method_154_code 14 = .ok (.goto 4, 3) := by decide +kernel
theorem d_String_isLatin1_18 : decode prog_28_method_154_code 18 = .ok (.ireturn, 1) := by decide +kernel
set_option maxHeartbeats 4000000 in
set_option maxRecDepth 100000 in
theorem v_Slat (l : Launch) (D : va_G) (dA : Nat → ClassId) (sz : Nat) (e0 mi : Nat) (kA vA : Nat → Nat) (fm : Nat) (ws : va_W) (i : Nat) (hi : i < 8) : Met l ⟨"java/lang/String", "isLatin1", "()Z"⟩ [Cond.code ⟨"java/lang/String", "isLatin1", "()Z"⟩ prog_28_method_154_code 1 (some FieldType.boolean)] { frames := 1, cells := 0, slots := 0, locals := 0 } (pCs D dA e0 mi kA vA fm [.ref (kA i)] (ws) sz) (va_Qi (fun (r9 : Int32) (u9 : Unit) => r9 = 1) (fun (u9 : Unit) t9 => bW D (va_A (ws) sz) (ws) t9) (va_A (ws) sz)) 0 0 (va_A (ws) sz) := by
  refine mkS (y := ⟨"java/lang/String", "isLatin1", "()Z"⟩) (cc := prog_28_method_154_code) (maxL := 1) (av := [.ref (kA i)]) (ws := ws) (sz := sz) (Qc := fun A => va_Qi (fun (r9 : Int32) (u9 : Unit) => r9 = 1) (fun (u9 : Unit) t9 => bW D A (ws) t9) A) (by decide) (Nat.le_of_ble_eq_true rfl) ?_
  intro A p e s m below meth c ls hsz hZ hT hM hQ hB
  obtain ⟨hx, hb, hr, hml, hown, hin, hlk, hE, hK, hP, hD, hS, hA, hN, hl⟩ := hB
  have hown : s.vm.findClass "java/lang/String" = some m.cls := hown
  have hl : lv_has ls 1 [(0, .ref (kA i))] := hl
  obtain ⟨H, hH⟩ : ∃ z, z = s.heap := ⟨_, rfl⟩
  have hP : va_P D vwCl (ws) H := by rw [hH]; exact hP
  have hS : va_S A s.heap H [] := by rw [hH]; exact hS
  rw [← hH]
  refine va_gets hx hb hQ.2.1 hS hown (hE.t w1592 rfl) (fun _ h => h) d_String_isLatin1_0 ?_
  refine lv_if_eq hx hb d_String_isLatin1_3 (tgt := 17) rfl (fun h9 => absurd h9 (by decide)) (fun _ => ?_)
  refine lv_aload_n hx hb d_String_isLatin1_6 rfl (lv_at hl 0 rfl) ?_
  refine vk_getf hx hb (hQ.1.1 i hi).2.1 hS hown (hE.t w1593 rfl) (fun _ h => h) d_String_isLatin1_7 ?_
  refine lv_if_ne hx hb d_String_isLatin1_10 (tgt := 17) rfl (fun h9 => absurd (by decide) h9) (fun _ => ?_)
  refine lv_iconst (v := 1) hx hb d_String_isLatin1_13 (by decide) ?_
  refine lv_goto hx hb d_String_isLatin1_14 (tgt := 18) rfl ?_
  exact rfZ hx hb hr (bI_nar true) hlk hS () rfl hP hD (Nat.le_of_ble_eq_true rfl) (Nat.le_of_ble_eq_true rfl) d_String_isLatin1_18
theorem d_String_length_0 : decode prog_28_method_54_code 0 = .ok (.aload_n 0, 1) := by decide +kernel
theorem d_String_length_1 : decode prog_28_method_54_code 1 = .ok (.getfield 9, 3) := by decide +kernel
theorem d_String_length_4 : decode prog_28_method_54_code 4 = .ok (.arraylength, 1) := by decide +kernel
theorem d_String_length_5 : decode prog_28_method_54_code 5 = .ok (.aload_n 0, 1) := by decide +kernel
theorem d_String_length_6 : decode prog_28_method_54_code 6 = .ok (.invokevirtual 335, 3) := by decide +kernel
theorem d_String_length_9 : decode prog_28_method_54_code 9 = .ok (.ishr, 1) := by decide +kernel
theorem d_String_length_10 : decode prog_28_method_54_code 10 = .ok (.ireturn, 1) := by decide +kernel
theorem w1594 : Cond.fieldLink "java/lang/String" 9 "java/lang/String" "value" "[B" ∈ aW := aw_of (tb_4 (List.mem_of_getElem? (i := 196) rfl)) rfl
theorem w1595 : Cond.methodLink "java/lang/String" 335 ⟨"java/lang/String", "coder", "()B"⟩ ∈ aW := aw_of (tb_4 (List.mem_of_getElem? (i := 116) rfl)) rfl
theorem w1596 : Cond.initialized "java/lang/String" ∈ aW := aw_of (tb_1 (List.mem_of_getElem? (i := 26) rfl)) rfl
theorem w1597 : Cond.code ⟨"java/lang/String", "coder", "()B"⟩ prog_28_method_152_code 1 (some FieldType.byte) ∈ aW := aw_of (tb_4 (List.mem_of_getElem? (i := 119) rfl)) rfl
theorem w1598 : Cond.instanceMethod ⟨"java/lang/String", "coder", "()B"⟩ ∈ aW := aw_of (tb_4 (List.mem_of_getElem? (i := 117) rfl)) rfl
theorem w1599 : Cond.selects "java/lang/String" ⟨"java/lang/String", "coder", "()B"⟩ ⟨"java/lang/String", "coder", "()B"⟩ ∈ aW := aw_of (tb_4 (List.mem_of_getElem? (i := 118) rfl)) rfl
set_option maxHeartbeats 4000000 in
set_option maxRecDepth 100000 in
theorem v_Slength (l : Launch) (D : va_G) (dA : Nat → ClassId) (sz : Nat) (e0 mi : Nat) (kA vA : Nat → Nat) (fm : Nat) (ws : va_W) (i : Nat) (hi : i < 8) : Met l ⟨"java/lang/String", "length", "()I"⟩ [Cond.code ⟨"java/lang/String", "length", "()I"⟩ prog_28_method_54_code 1 (some FieldType.int)] { frames := 2, cells := 0, slots := 0, locals := 20 } (pCs D dA e0 mi kA vA fm [.ref (kA i)] (ws) sz) (va_Qi (fun (r9 : Int32) (u9 : Unit) => r9 = nI (qsW i).length) (fun (u9 : Unit) t9 => bW D (va_A (ws) sz) (ws) t9) (va_A (ws) sz)) 0 0 (va_A (ws) sz) := by
  refine mkS (y := ⟨"java/lang/String", "length", "()I"⟩) (cc := prog_28_method_54_code) (maxL := 1) (av := [.ref (kA i)]) (ws := ws) (sz := sz) (Qc := fun A => va_Qi (fun (r9 : Int32) (u9 : Unit) => r9 = nI (qsW i).length) (fun (u9 : Unit) t9 => bW D A (ws) t9) A) (by decide) (Nat.le_of_ble_eq_true rfl) ?_
  intro A p e s m below meth c ls hsz hZ hT hM hQ hB
  obtain ⟨hx, hb, hr, hml, hown, hin, hlk, hE, hK, hP, hD, hS, hA, hN, hl⟩ := hB
  have hown : s.vm.findClass "java/lang/String" = some m.cls := hown
  have hl : lv_has ls 1 [(0, .ref (kA i))] := hl
  obtain ⟨H, hH⟩ : ∃ z, z = s.heap := ⟨_, rfl⟩
  have hP : va_P D vwCl (ws) H := by rw [hH]; exact hP
  have hS : va_S A s.heap H [] := by rw [hH]; exact hS
  rw [← hH]
  refine lv_aload_n hx hb d_String_length_0 rfl (lv_at hl 0 rfl) ?_
  refine vk_getf hx hb (hQ.1.1 i hi).2.2.1 hS hown (hE.t w1594 rfl) (fun _ h => h) d_String_length_1 ?_
  refine va_tlen (v := nI (qsW i).length) hx hb (hQ.1.1 i hi).2.2.2 hS (by rw [(qs_all i hi).1]; rfl) d_String_length_4 ?_
  refine lv_aload_n hx hb d_String_length_5 rfl (lv_at hl 0 rfl) ?_
  refine jkI (wr := []) (rnVq (As := []) (rest := [.int (nI (qsW i).length)]) hx hb hml hown hE hK hZ hT hM hQ hS (hN _ _ hS) hP hD (v_Scoder l D dA H.size e0 mi kA vA fm ws i (show i < 8 from by omega)) (i := i) hi w1597 w1595 w1598 w1599 w1596 rfl rfl ⟨⟨by decide, by decide⟩, rfl⟩ ⟨(Nat.le_of_ble_eq_true rfl), (Nat.le_of_ble_eq_true rfl)⟩ rfl hl.1 rfl (Nat.le_of_ble_eq_true rfl) d_String_length_6 ⟨(Nat.le_of_ble_eq_true rfl), (Nat.le_of_ble_eq_true rfl)⟩) hP hD hS hA (fun r1 u2 H locs hp9 hP hD hS => ?_)
  have hP : va_P D vwCl (ws) H := hP
  have hD : va_D A (ws) := hD
  replace hp9 : 0 = r1 := Eq.symm hp9
  subst hp9
  refine lv_ishr hx hb d_String_length_9 (tpi (y := nI (qsW i).length) (sc_shr00 (by have := (qs_all i hi).2.1; omega)) ?_)
  exact rfI hx hb hr hlk hS () rfl hP hD (Nat.le_of_ble_eq_true rfl) (Nat.le_of_ble_eq_true rfl) d_String_length_10
theorem d_StringLatin1_charAt_0 : decode prog_30_method_2_code 0 = .ok (.iload_n 1, 1) := by decide +kernel
theorem d_StringLatin1_charAt_1 : decode prog_30_method_2_code 1 = .ok (.aload_n 0, 1) := by decide +kernel
theorem d_StringLatin1_charAt_2 : decode prog_30_method_2_code 2 = .ok (.arraylength, 1) := by decide +kernel
theorem d_StringLatin1_charAt_3 : decode prog_30_method_2_code 3 = .ok (.invokestatic 9, 3) := by decide +kernel
theorem d_StringLatin1_charAt_6 : decode prog_30_method_2_code 6 = .ok (.aload_n 0, 1) := by decide +kernel
theorem d_StringLatin1_charAt_7 : decode prog_30_method_2_code 7 = .ok (.iload_n 1, 1) := by decide +kernel
theorem d_StringLatin1_charAt_8 : decode prog_30_method_2_code 8 = .ok (.baload, 1) := by decide +kernel
theorem d_StringLatin1_charAt_9 : decode prog_30_method_2_code 9 = .ok (.sipush 255, 3) := by decide +kernel
theorem d_StringLatin1_charAt_12 : decode prog_30_method_2_code 12 = .ok (.iand, 1) := by decide +kernel
theorem d_StringLatin1_charAt_13 : decode prog_30_method_2_code 13 = .ok (.i2c, 1) := by decide +kernel
theorem d_StringLatin1_charAt_14 : decode prog_30_method_2_code 14 = .ok (.ireturn, 1) := by decide +kernel
theorem w1600 : Cond.methodLink "java/lang/StringLatin1" 9 ⟨"java/lang/String", "checkIndex", "(II)V"⟩ ∈ aW := aw_of (tb_7 (List.mem_of_getElem? (i := 71) rfl)) rfl
theorem w1601 : Cond.code ⟨"java/lang/String", "checkIndex", "(II)V"⟩ prog_28_method_155_code 2 none ∈ aW := aw_of (tb_7 (List.mem_of_getElem? (i := 73) rfl)) rfl
theorem w1602 : Cond.static ⟨"java/lang/String", "checkIndex", "(II)V"⟩ ∈ aW := aw_of (tb_7 (List.mem_of_getElem? (i := 72) rfl)) rfl
set_option maxHeartbeats 4000000 in
set_option maxRecDepth 100000 in
theorem v_SLchar (l : Launch) (D : va_G) (dA : Nat → ClassId) (sz : Nat) (e0 mi : Nat) (kA vA : Nat → Nat) (fm : Nat) (ws : va_W) (i : Nat) (k : Nat) (hi : i < 8) (hk : k < (qsW i).length) : Met l ⟨"java/lang/StringLatin1", "charAt", "([BI)C"⟩ [Cond.code ⟨"java/lang/StringLatin1", "charAt", "([BI)C"⟩ prog_30_method_2_code 2 (some FieldType.char)] { frames := 3, cells := 0, slots := 0, locals := 43 } (pCs D dA e0 mi kA vA fm [.ref (vA i), .int (nI k)] (ws) sz) (va_Qi (fun (r9 : Int32) (u9 : Unit) => r9 = (qsW i).getD k 0) (fun (u9 : Unit) t9 => bW D (va_A (ws) sz) (ws) t9) (va_A (ws) sz)) 0 0 (va_A (ws) sz) := by
  refine mkS (y := ⟨"java/lang/StringLatin1", "charAt", "([BI)C"⟩) (cc := prog_30_method_2_code) (maxL := 2) (av := [.ref (vA i), .int (nI k)]) (ws := ws) (sz := sz) (Qc := fun A => va_Qi (fun (r9 : Int32) (u9 : Unit) => r9 = (qsW i).getD k 0) (fun (u9 : Unit) t9 => bW D A (ws) t9) A) (by decide) (Nat.le_of_ble_eq_true rfl) ?_
  intro A p e s m below meth c ls hsz hZ hT hM hQ hB
  obtain ⟨hx, hb, hr, hml, hown, hin, hlk, hE, hK, hP, hD, hS, hA, hN, hl⟩ := hB
  have hown : s.vm.findClass "java/lang/StringLatin1" = some m.cls := hown
  have hl : lv_has ls 2 [(0, .ref (vA i)), (1, .int (nI k))] := hl
  obtain ⟨H, hH⟩ : ∃ z, z = s.heap := ⟨_, rfl⟩
  have hP : va_P D vwCl (ws) H := by rw [hH]; exact hP
  have hS : va_S A s.heap H [] := by rw [hH]; exact hS
  rw [← hH]
  have h6 := (qs_all i hi).2.1
  refine lv_iload_n hx hb d_StringLatin1_charAt_0 rfl (lv_at hl 1 rfl) ?_
  refine lv_aload_n hx hb d_StringLatin1_charAt_1 rfl (lv_at hl 0 rfl) ?_
  refine va_tlen (v := nI (qsW i).length) hx hb (hQ.1.1 i hi).2.2.2 hS (by rw [(qs_all i hi).1]; rfl) d_StringLatin1_charAt_2 ?_
  refine jkV (wr := []) (rnSs (As := [.int (nI k), .int (nI (qsW i).length)]) (rest := []) hx hb hml hown hE hK hZ hT hM hQ hS (hN _ _ hS) hP hD (v_Sindex l D dA H.size e0 mi kA vA fm ws k ((qsW i).length) (show k < ((qsW i).length) from by omega) (show ((qsW i).length) ≤ 65536 from by omega)) w1601 w1600 w1602 w1596 rfl rfl ⟨⟨by decide, by decide⟩, rfl⟩ ⟨(Nat.le_of_ble_eq_true rfl), (Nat.le_of_ble_eq_true rfl)⟩ rfl hl.1 rfl (Nat.le_of_ble_eq_true rfl) d_StringLatin1_charAt_3 ⟨(Nat.le_of_ble_eq_true rfl), (Nat.le_of_ble_eq_true rfl)⟩) hP hD hS hA (fun u2 H locs hp9 hP hD hS => ?_)
  have hP : va_P D vwCl (ws) H := hP
  have hD : va_D A (ws) := hD
  refine lv_aload_n hx hb d_StringLatin1_charAt_6 rfl (lv_at hl 0 rfl) ?_
  refine lv_iload_n hx hb d_StringLatin1_charAt_7 rfl (lv_at hl 1 rfl) ?_
  refine va_tb (v := .int ((qsW i).getD k 0)) hx hb (hQ.1.1 i hi).2.2.2 hS (vp_in_nI (by rw [(qs_all i hi).1]; omega) (by have := (qs_all i hi).2.1; rw [(qs_all i hi).1]; omega)) (by rw [nI_clamp (by omega)]; rfl) d_StringLatin1_charAt_8 ?_
  refine lv_sipush (v := 255) hx hb d_StringLatin1_charAt_9 (by decide) ?_
  refine lv_iand hx hb d_StringLatin1_charAt_12 ?_
  refine lv_i2c hx hb (v := (qsW i).getD k 0) d_StringLatin1_charAt_13 (qs_at hi hk).1 ?_
  exact rfN hx hb hr (qs_at hi hk).2 hlk hS () rfl hP hD (Nat.le_of_ble_eq_true rfl) (Nat.le_of_ble_eq_true rfl) d_StringLatin1_charAt_14
theorem d_String_charAt_0 : decode prog_28_method_56_code 0 = .ok (.aload_n 0, 1) := by decide +kernel
theorem d_String_charAt_1 : decode prog_28_method_56_code 1 = .ok (.invokevirtual 492, 3) := by decide +kernel
theorem d_String_charAt_4 : decode prog_28_method_56_code 4 = .ok (.ifCond .eq 12, 3) := by decide +kernel
theorem d_String_charAt_7 : decode prog_28_method_56_code 7 = .ok (.aload_n 0, 1) := by decide +kernel
theorem d_String_charAt_8 : decode prog_28_method_56_code 8 = .ok (.getfield 9, 3) := by decide +kernel
theorem d_String_charAt_11 : decode prog_28_method_56_code 11 = .ok (.iload_n 1, 1) := by decide +kernel
theorem d_String_charAt_12 : decode prog_28_method_56_code 12 = .ok (.invokestatic 495, 3) := by decide +kernel
theorem d_String_charAt_15 : decode prog_28_method_56_code 15 = .ok (.ireturn, 1) := by decide +kernel
theorem w1603 : Cond.methodLink "java/lang/String" 492 ⟨"java/lang/String", "isLatin1", "()Z"⟩ ∈ aW := aw_of (tb_7 (List.mem_of_getElem? (i := 64) rfl)) rfl
theorem w1604 : Cond.code ⟨"java/lang/String", "isLatin1", "()Z"⟩ prog_28_method_154_code 1 (some FieldType.boolean) ∈ aW := aw_of (tb_7 (List.mem_of_getElem? (i := 67) rfl)) rfl
theorem w1605 : Cond.instanceMethod ⟨"java/lang/String", "isLatin1", "()Z"⟩ ∈ aW := aw_of (tb_7 (List.mem_of_getElem? (i := 65) rfl)) rfl
theorem w1606 : Cond.selects "java/lang/String" ⟨"java/lang/String", "isLatin1", "()Z"⟩ ⟨"java/lang/String", "isLatin1", "()Z"⟩ ∈ aW := aw_of (tb_7 (List.mem_of_getElem? (i := 66) rfl)) rfl
theorem w1607 : Cond.methodLink "java/lang/String" 495 ⟨"java/lang/StringLatin1", "charAt", "([BI)C"⟩ ∈ aW := aw_of (tb_7 (List.mem_of_getElem? (i := 68) rfl)) rfl
theorem w1608 : Cond.initialized "java/lang/StringLatin1" ∈ aW := aw_of (tb_1 (List.mem_of_getElem? (i := 30) rfl)) rfl
theorem w1609 : Cond.code ⟨"java/lang/StringLatin1", "charAt", "([BI)C"⟩ prog_30_method_2_code 2 (some FieldType.char) ∈ aW := aw_of (tb_7 (List.mem_of_getElem? (i := 70) rfl)) rfl
theorem w1610 : Cond.static ⟨"java/lang/StringLatin1", "charAt", "([BI)C"⟩ ∈ aW := aw_of (tb_7 (List.mem_of_getElem? (i := 69) rfl)) rfl
set_option maxHeartbeats 4000000 in
set_option maxRecDepth 100000 in
theorem v_Schar (l : Launch) (D : va_G) (dA : Nat → ClassId) (sz : Nat) (e0 mi : Nat) (kA vA : Nat → Nat) (fm : Nat) (ws : va_W) (i : Nat) (k : Nat) (hi : i < 8) (hk : k < (qsW i).length) : Met l ⟨"java/lang/String", "charAt", "(I)C"⟩ [Cond.code ⟨"java/lang/String", "charAt", "(I)C"⟩ prog_28_method_56_code 2 (some FieldType.char)] { frames := 4, cells := 0, slots := 0, locals := 64 } (pCs D dA e0 mi kA vA fm [.ref (kA i), .int (nI k)] (ws) sz) (va_Qi (fun (r9 : Int32) (u9 : Unit) => r9 = (qsW i).getD k 0) (fun (u9 : Unit) t9 => bW D (va_A (ws) sz) (ws) t9) (va_A (ws) sz)) 0 0 (va_A (ws) sz) := by
  refine mkS (y := ⟨"java/lang/String", "charAt", "(I)C"⟩) (cc := prog_28_method_56_code) (maxL := 2) (av := [.ref (kA i), .int (nI k)]) (ws := ws) (sz := sz) (Qc := fun A => va_Qi (fun (r9 : Int32) (u9 : Unit) => r9 = (qsW i).getD k 0) (fun (u9 : Unit) t9 => bW D A (ws) t9) A) (by decide) (Nat.le_of_ble_eq_true rfl) ?_
  intro A p e s m below meth c ls hsz hZ hT hM hQ hB
  obtain ⟨hx, hb, hr, hml, hown, hin, hlk, hE, hK, hP, hD, hS, hA, hN, hl⟩ := hB
  have hown : s.vm.findClass "java/lang/String" = some m.cls := hown
  have hl : lv_has ls 2 [(0, .ref (kA i)), (1, .int (nI k))] := hl
  obtain ⟨H, hH⟩ : ∃ z, z = s.heap := ⟨_, rfl⟩
  have hP : va_P D vwCl (ws) H := by rw [hH]; exact hP
  have hS : va_S A s.heap H [] := by rw [hH]; exact hS
  rw [← hH]
  have h6 := (qs_all i hi).2.1
  refine lv_aload_n hx hb d_String_charAt_0 rfl (lv_at hl 0 rfl) ?_
  refine jkI (wr := []) (rnVq (As := []) (rest := []) hx hb hml hown hE hK hZ hT hM hQ hS (hN _ _ hS) hP hD (v_Slat l D dA H.size e0 mi kA vA fm ws i (show i < 8 from by omega)) (i := i) hi w1604 w1603 w1605 w1606 w1596 rfl rfl ⟨⟨by decide, by decide⟩, rfl⟩ ⟨(Nat.le_of_ble_eq_true rfl), (Nat.le_of_ble_eq_true rfl)⟩ rfl hl.1 rfl (Nat.le_of_ble_eq_true rfl) d_String_charAt_1 ⟨(Nat.le_of_ble_eq_true rfl), (Nat.le_of_ble_eq_true rfl)⟩) hP hD hS hA (fun r1 u2 H locs hp9 hP hD hS => ?_)
  have hP : va_P D vwCl (ws) H := hP
  have hD : va_D A (ws) := hD
  replace hp9 : 1 = r1 := Eq.symm hp9
  subst hp9
  refine lv_if_eq hx hb d_String_charAt_4 (tgt := 16) rfl (fun h9 => absurd h9 (by decide)) (fun _ => ?_)
  refine lv_aload_n hx hb d_String_charAt_7 rfl (lv_at hl 0 rfl) ?_
  refine vk_getf hx hb (hQ.1.1 i hi).2.2.1 hS hown (hE.t w1594 rfl) (fun _ h => h) d_String_charAt_8 ?_
  refine lv_iload_n hx hb d_String_charAt_11 rfl (lv_at hl 1 rfl) ?_
  refine jkI (wr := []) (rnSs (As := [.ref (vA i), .int (nI k)]) (rest := []) hx hb hml hown hE hK hZ hT hM hQ hS (hN _ _ hS) hP hD (v_SLchar l D dA H.size e0 mi kA vA fm ws i k (show i < 8 from by omega) (show k < (qsW i).length from by omega)) w1609 w1607 w1610 w1608 rfl rfl ⟨⟨by decide, by decide⟩, rfl⟩ ⟨(Nat.le_of_ble_eq_true rfl), (Nat.le_of_ble_eq_true rfl)⟩ rfl hl.1 rfl (Nat.le_of_ble_eq_true rfl) d_String_charAt_12 ⟨(Nat.le_of_ble_eq_true rfl), (Nat.le_of_ble_eq_true rfl)⟩) hP hD hS hA (fun r3 u4 H locs hp9 hP hD hS => ?_)
  have hP : va_P D vwCl (ws) H := hP
  have hD : va_D A (ws) := hD
  replace hp9 : (qsW i).getD k 0 = r3 := Eq.symm hp9
  subst hp9
  exact rfN hx hb hr (qs_at hi hk).2 hlk hS () rfl hP hD (Nat.le_of_ble_eq_true rfl) (Nat.le_of_ble_eq_true rfl) d_String_charAt_15
theorem d_W_spells_0 : decode prog_12_method_6_code 0 = .ok (.aload_n 1, 1) := by decide +kernel
theorem d_W_spells_1 : decode prog_12_method_6_code 1 = .ok (.invokevirtual 27, 3) := by decide +kernel
theorem d_W_spells_4 : decode prog_12_method_6_code 4 = .ok (.aload_n 0, 1) := by decide +kernel
theorem d_W_spells_5 : decode prog_12_method_6_code 5 = .ok (.getfield 15, 3) := by decide +kernel
theorem d_W_spells_8 : decode prog_12_method_6_code 8 = .ok (.arraylength, 1) := by decide +kernel
theorem d_W_spells_9 : decode prog_12_method_6_code 9 = .ok (.if_icmp .eq 5, 3) := by decide +kernel
theorem d_W_spells_14 : decode prog_12_method_6_code 14 = .ok (.iconst 0, 1) := by decide +kernel
theorem d_W_spells_15 : decode prog_12_method_6_code 15 = .ok (.istore_n 2, 1) := by decide +kernel
theorem d_W_spells_16 : decode prog_12_method_6_code 16 = .ok (.iload_n 2, 1) := by decide +kernel
theorem d_W_spells_17 : decode prog_12_method_6_code 17 = .ok (.aload_n 0, 1) := by decide +kernel
theorem d_W_spells_18 : decode prog_12_method_6_code 18 = .ok (.getfield 15, 3) := by decide +kernel
theorem d_W_spells_21 : decode prog_12_method_6_code 21 = .ok (.arraylength, 1) := by decide +kernel
theorem d_W_spells_22 : decode prog_12_method_6_code 22 = .ok (.if_icmp .ge 25, 3) := by decide +kernel
theorem d_W_spells_47 : decode prog_12_method_6_code 47 = .ok (.iconst 1, 1) := by decide +kernel
theorem d_W_spells_48 : decode prog_12_method_6_code 48 = .ok (.ireturn, 1) := by decide +kernel
theorem d_W_spells_25 : decode prog_12_method_6_code 25 = .ok (.aload_n 0, 1) := by decide +kernel
theorem d_W_spells_26 : decode prog_12_method_6_code 26 = .ok (.getfield 15, 3) := by decide +kernel
theorem d_W_spells_29 : decode prog_12_method_6_code 29 = .ok (.iload_n 2, 1) := by decide +kernel
theorem d_W_spells_30 : decode prog_12_method_6_code 30 = .ok (.baload, 1) := by decide +kernel
theorem d_W_spells_31 : decode prog_12_method_6_code 31 = .ok (.aload_n 1, 1) := by decide +kernel
theorem d_W_spells_32 : decode prog_12_method_6_code 32 = .ok (.iload_n 2, 1) := by decide +kernel
theorem d_W_spells_33 : decode prog_12_method_6_code 33 = .ok (.invokevirtual 33, 3) := by decide +kernel
theorem d_W_spells_36 : decode prog_12_method_6_code 36 = .ok (.if_icmp .eq 5, 3) := by decide +kernel
theorem d_W_spells_41 : decode prog_12_method_6_code 41 = .ok (.iinc 2 1, 3) := by decide +kernel
theorem d_W_spells_44 : decode prog_12_method_6_code 44 = .ok (.goto (-28), 3) := by decide +kernel
theorem d_W_spells_39 : decode prog_12_method_6_code 39 = .ok (.iconst 0, 1) := by decide +kernel
theorem d_W_spells_40 : decode prog_12_method_6_code 40 = .ok (.ireturn, 1) := by decide +kernel
theorem d_W_spells_12 : decode prog_12_method_6_code 12 = .ok (.iconst 0, 1) := by decide +kernel
theorem d_W_spells_13 : decode prog_12_method_6_code 13 = .ok (.ireturn, 1) := by decide +kernel
theorem w1611 : Cond.methodLink "SeriesVault$Word" 27 ⟨"java/lang/String", "length", "()I"⟩ ∈ aW := aw_of (tb_7 (List.mem_of_getElem? (i := 59) rfl)) rfl
theorem w1612 : Cond.code ⟨"java/lang/String", "length", "()I"⟩ prog_28_method_54_code 1 (some FieldType.int) ∈ aW := aw_of (tb_4 (List.mem_of_getElem? (i := 115) rfl)) rfl
theorem w1613 : Cond.instanceMethod ⟨"java/lang/String", "length", "()I"⟩ ∈ aW := aw_of (tb_4 (List.mem_of_getElem? (i := 113) rfl)) rfl
theorem w1614 : Cond.selects "java/lang/String" ⟨"java/lang/String", "length", "()I"⟩ ⟨"java/lang/String", "length", "()I"⟩ ∈ aW := aw_of (tb_4 (List.mem_of_getElem? (i := 114) rfl)) rfl
theorem w1615 : Cond.methodLink "SeriesVault$Word" 33 ⟨"java/lang/String", "charAt", "(I)C"⟩ ∈ aW := aw_of (tb_7 (List.mem_of_getElem? (i := 60) rfl)) rfl
theorem w1616 : Cond.code ⟨"java/lang/String", "charAt", "(I)C"⟩ prog_28_method_56_code 2 (some FieldType.char) ∈ aW := aw_of (tb_7 (List.mem_of_getElem? (i := 63) rfl)) rfl
theorem w1617 : Cond.instanceMethod ⟨"java/lang/String", "charAt", "(I)C"⟩ ∈ aW := aw_of (tb_7 (List.mem_of_getElem? (i := 61) rfl)) rfl
theorem w1618 : Cond.selects "java/lang/String" ⟨"java/lang/String", "charAt", "(I)C"⟩ ⟨"java/lang/String", "charAt", "(I)C"⟩ ∈ aW := aw_of (tb_7 (List.mem_of_getElem? (i := 62) rfl)) rfl
set_option maxHeartbeats 4000000 in
set_option maxRecDepth 100000 in
theorem v_Wspells (l : Launch) (D : va_G) (dA : Nat → ClassId) (sz : Nat) (e0 mi : Nat) (kA vA : Nat → Nat) (fm : Nat) (ws : va_W) (wa : Nat) (L : List Int32) (i : Nat) (hwwa : isWo dA ws wa L) (hlwa : L.length ≤ 65536) (hi : i < 8) : Met l ⟨"SeriesVault$Word", "spells", "(Ljava/lang/String;)Z"⟩ [Cond.code ⟨"SeriesVault$Word", "spells", "(Ljava/lang/String;)Z"⟩ prog_12_method_6_code 3 (some FieldType.boolean)] { frames := 5, cells := 0, slots := 0, locals := 85 } (pCs D dA e0 mi kA vA fm [.ref wa, .ref (kA i)] (ws) sz) (va_Qi (fun (r9 : Int32) (u9 : Unit) => r9 = bI (sameW L (qsW i))) (fun (u9 : Unit) t9 => bW D (va_A (ws) sz) (ws) t9) (va_A (ws) sz)) 0 0 (va_A (ws) sz) := by
  refine mkS (y := ⟨"SeriesVault$Word", "spells", "(Ljava/lang/String;)Z"⟩) (cc := prog_12_method_6_code) (maxL := 3) (av := [.ref wa, .ref (kA i)]) (ws := ws) (sz := sz) (Qc := fun A => va_Qi (fun (r9 : Int32) (u9 : Unit) => r9 = bI (sameW L (qsW i))) (fun (u9 : Unit) t9 => bW D A (ws) t9) A) (by decide) (Nat.le_of_ble_eq_true rfl) ?_
  intro A p e s m below meth c ls hsz hZ hT hM hQ hB
  obtain ⟨hx, hb, hr, hml, hown, hin, hlk, hE, hK, hP, hD, hS, hA, hN, hl⟩ := hB
  have hown : s.vm.findClass "SeriesVault$Word" = some m.cls := hown
  have hl : lv_has ls 3 [(0, .ref wa), (1, .ref (kA i))] := hl
  obtain ⟨H, hH⟩ : ∃ z, z = s.heap := ⟨_, rfl⟩
  have hP : va_P D vwCl (ws) H := by rw [hH]; exact hP
  have hS : va_S A s.heap H [] := by rw [hH]; exact hS
  rw [← hH]
  obtain ⟨b_wa, f_wa, m1wa, m2wa, y_wa, hfwa⟩ := hwwa
  have h6 := (qs_all i hi).2.1
  refine lv_aload_n hx hb d_W_spells_0 rfl (lv_at hl 1 rfl) ?_
  refine jkI (wr := []) (rnVq (As := []) (rest := []) hx hb hml hown hE hK hZ hT hM hQ hS (hN _ _ hS) hP hD (v_Slength l D dA H.size e0 mi kA vA fm ws i (show i < 8 from by omega)) (i := i) hi w1612 w1611 w1613 w1614 w1596 rfl rfl ⟨⟨by decide, by decide⟩, rfl⟩ ⟨(Nat.le_of_ble_eq_true rfl), (Nat.le_of_ble_eq_true rfl)⟩ rfl hl.1 rfl (Nat.le_of_ble_eq_true rfl) d_W_spells_1 ⟨(Nat.le_of_ble_eq_true rfl), (Nat.le_of_ble_eq_true rfl)⟩) hP hD hS hA (fun r1 u2 H locs hp9 hP hD hS => ?_)
  have hP : va_P D vwCl (ws) H := hP
  have hD : va_D A (ws) := hD
  replace hp9 : nI (qsW i).length = r1 := Eq.symm hp9
  subst hp9
  refine lv_aload_n hx hb d_W_spells_4 rfl (lv_at hl 0 rfl) ?_
  obtain ⟨qp3, ep4⟩ := List.getElem?_of_mem (show ((wa, .inr (10, [.ref b_wa])) : Nat × va_E) ∈ ws from m1wa)
  refine gF (v := .ref b_wa) hx hb hown hE hK hP qp3 ep4 rfl layW 0 (by decide) w1274 rfl d_W_spells_5 ?_
  obtain ⟨qp5, ep6⟩ := List.getElem?_of_mem (show ((b_wa, .inl (dA 0, L.length, .inl f_wa)) : Nat × va_E) ∈ ws from m2wa)
  refine va_alen (v := nI L.length) hx hb hK hP (qp5) 0 ep6 rfl rfl d_W_spells_8 ?_
  refine lv_icmp_eq hx hb d_W_spells_9 (tgt := 14) rfl (fun g7 => ?_) (fun g7 => ?_)
  · have g7 := (nI_eq (a := (qsW i).length) (b := L.length) (by omega) (by omega)).mp g7
    refine lv_iconst (v := 0) hx hb d_W_spells_14 (by decide) ?_
    refine lv_istore_n hx hb d_W_spells_15 rfl hl (by decide) rfl (fun ls hl => ?_)
    have hl : lv_has ls 3 [(2, .int 0), (0, .ref wa), (1, .ref (kA i))] := hl
    have L16 : ∀ (k9 : Nat) (j : Nat) (i1 : j ≤ L.length) (i2 : allB j (smB L (qsW i)) = true) (hk9 : L.length - j = k9), ∀ (H : Heap) (locs : List Loc) (ls : Array Slot) (hP : va_P D vwCl (ws) H) (hD : va_D A (ws)) (hS : va_S A s.heap H locs) (hl : lv_has ls 3 [(2, .int (nI j)), (0, .ref wa), (1, .ref (kA i))]), W p l e ({ frames := 5, cells := 0, slots := 0, locals := 85 } : Room) s m ([.ref wa, .ref (kA i)] : List Value).toArray below meth c H locs 0 0 (MQ below (va_Qi (fun (r9 : Int32) (u9 : Unit) => r9 = bI (sameW L (qsW i))) (fun (u9 : Unit) t9 => bW D A (ws) t9) A) ([.ref wa, .ref (kA i)] : List Value).toArray s 0 0 A) (F0 m 16 ls []) := by
      intro k9
      induction k9 using Nat.strongRecOn with
      | ind k9 ih16 =>
        intro j i1 i2 hk9 H locs ls hP hD hS hl
        refine lv_iload_n hx hb d_W_spells_16 rfl (lv_at hl 0 rfl) ?_
        refine lv_aload_n hx hb d_W_spells_17 rfl (lv_at hl 1 rfl) ?_
        obtain ⟨qp8, ep9⟩ := List.getElem?_of_mem (show ((wa, .inr (10, [.ref b_wa])) : Nat × va_E) ∈ ws from m1wa)
        refine gF (v := .ref b_wa) hx hb hown hE hK hP qp8 ep9 rfl layW 0 (by decide) w1274 rfl d_W_spells_18 ?_
        obtain ⟨qp10, ep11⟩ := List.getElem?_of_mem (show ((b_wa, .inl (dA 0, L.length, .inl f_wa)) : Nat × va_E) ∈ ws from m2wa)
        refine va_alen (v := nI L.length) hx hb hK hP (qp10) 0 ep11 rfl rfl d_W_spells_21 ?_
        refine lv_icmp_ge hx hb d_W_spells_22 (tgt := 47) rfl (fun g12 => ?_) (fun g12 => ?_)
        · have g12 := (nI_leI (a := L.length) (b := j) (by omega) (by omega)).mp g12
          refine lv_iconst (v := 1) hx hb d_W_spells_47 (by decide) ?_
          exact rfZ hx hb hr (bI_nar true) hlk hS () (by unfold sameW; rw [decide_eq_true (by omega), Bool.true_and, ← show j = L.length by omega, i2]; rfl) hP hD (Nat.le_of_ble_eq_true rfl) (Nat.le_of_ble_eq_true rfl) d_W_spells_48
        · have g12 := mt (nI_leI (a := L.length) (b := j) (by omega) (by omega)).mpr g12
          refine lv_aload_n hx hb d_W_spells_25 rfl (lv_at hl 1 rfl) ?_
          obtain ⟨qp13, ep14⟩ := List.getElem?_of_mem (show ((wa, .inr (10, [.ref b_wa])) : Nat × va_E) ∈ ws from m1wa)
          refine gF (v := .ref b_wa) hx hb hown hE hK hP qp13 ep14 rfl layW 0 (by decide) w1274 rfl d_W_spells_26 ?_
          refine lv_iload_n hx hb d_W_spells_29 rfl (lv_at hl 0 rfl) ?_
          obtain ⟨qp15, ep16⟩ := List.getElem?_of_mem (show ((b_wa, .inl (dA 0, L.length, .inl f_wa)) : Nat × va_E) ∈ ws from m2wa)
          refine nbld (f := f_wa) (n := L.length) hx hb hK hP (qp15) 0 ep16 rfl (j) (by omega) (by omega) d_W_spells_30 ?_
          refine tpi (y := (L.getD j 0)) (hfwa j (by omega)) ?_
          refine lv_aload_n hx hb d_W_spells_31 rfl (lv_at hl 2 rfl) ?_
          refine lv_iload_n hx hb d_W_spells_32 rfl (lv_at hl 0 rfl) ?_
          refine jkI (wr := []) (rnVq (As := [.int (nI j)]) (rest := [.int (L.getD j 0)]) hx hb hml hown hE hK hZ hT hM hQ hS (hN _ _ hS) hP hD (v_Schar l D dA H.size e0 mi kA vA fm ws i j (show i < 8 from by omega) (show j < (qsW i).length from by omega)) (i := i) hi w1616 w1615 w1617 w1618 w1596 rfl rfl ⟨⟨by decide, by decide⟩, rfl⟩ ⟨(Nat.le_of_ble_eq_true rfl), (Nat.le_of_ble_eq_true rfl)⟩ rfl hl.1 rfl (Nat.le_of_ble_eq_true rfl) d_W_spells_33 ⟨(Nat.le_of_ble_eq_true rfl), (Nat.le_of_ble_eq_true rfl)⟩) hP hD hS hA (fun r17 u18 H locs hp9 hP hD hS => ?_)
          have hP : va_P D vwCl (ws) H := hP
          have hD : va_D A (ws) := hD
          replace hp9 : (qsW i).getD j 0 = r17 := Eq.symm hp9
          subst hp9
          refine lv_icmp_eq hx hb d_W_spells_36 (tgt := 41) rfl (fun g19 => ?_) (fun g19 => ?_)
          · have g19 := g19
            refine lv_iinc (k := 0) (v := nI (j + 1)) hx hb d_W_spells_41 hl rfl (iincN (j) 1 1 (by decide)) (by decide) rfl (fun ls hl => ?_)
            have hl : lv_has ls 3 [(2, .int (nI (j + 1))), (0, .ref wa), (1, .ref (kA i))] := hl
            refine lv_goto hx hb d_W_spells_44 (tgt := 16) rfl ?_
            exact ih16 _ (by omega) (j + 1) (by omega) (by rw [allB_s, i2, Bool.true_and]; exact decide_eq_true g19) rfl H _ ls hP hD hS (lv_sub hl [0, 1, 2] rfl)
          · have g19 := g19
            refine lv_iconst (v := 0) hx hb d_W_spells_39 (by decide) ?_
            exact rfZ hx hb hr (bI_nar false) hlk hS () (by unfold sameW; rw [allB_1 (f := smB L (qsW i)) (k := j) (n := L.length) (by omega) (decide_eq_false g19), Bool.and_false]; rfl) hP hD (Nat.le_of_ble_eq_true rfl) (Nat.le_of_ble_eq_true rfl) d_W_spells_40
    exact L16 _ 0 (Nat.zero_le _) rfl rfl H _ ls hP hD hS (lv_sub hl [0, 1, 2] rfl)
  · have g7 := mt (nI_eq (a := (qsW i).length) (b := L.length) (by omega) (by omega)).mpr g7
    refine lv_iconst (v := 0) hx hb d_W_spells_12 (by decide) ?_
    exact rfZ hx hb hr (bI_nar false) hlk hS () (by unfold sameW; rw [decide_eq_false (fun e9 => g7 e9.symm)]; rfl) hP hD (Nat.le_of_ble_eq_true rfl) (Nat.le_of_ble_eq_true rfl) d_W_spells_13
/-- the number of the function of this name, or -1 -/
def fnV (L : List Int32) : Int32 := if sameW L (qsW 0) = true then 0 else if sameW L (qsW 1) = true then 1 else if sameW L (qsW 2) = true then 2 else if sameW L (qsW 3) = true then 3 else if sameW L (qsW 4) = true then 4 else if sameW L (qsW 5) = true then 5 else if sameW L (qsW 6) = true then 6 else -1
theorem d_Q_funcOf_0 : decode prog_6_method_11_code 0 = .ok (.aload_n 0, 1) := by decide +kernel
theorem d_Q_funcOf_1 : decode prog_6_method_11_code 1 = .ok (.ldc 110, 2) := by decide +kernel
theorem d_Q_funcOf_3 : decode prog_6_method_11_code 3 = .ok (.invokevirtual 97, 3) := by decide +kernel
theorem d_Q_funcOf_6 : decode prog_6_method_11_code 6 = .ok (.ifCond .eq 5, 3) := by decide +kernel
theorem d_Q_funcOf_11 : decode prog_6_method_11_code 11 = .ok (.aload_n 0, 1) := by decide +kernel
theorem d_Q_funcOf_12 : decode prog_6_method_11_code 12 = .ok (.ldc 112, 2) := by decide +kernel
theorem d_Q_funcOf_14 : decode prog_6_method_11_code 14 = .ok (.invokevirtual 97, 3) := by decide +kernel
theorem d_Q_funcOf_17 : decode prog_6_method_11_code 17 = .ok (.ifCond .eq 5, 3) := by decide +kernel
theorem d_Q_funcOf_22 : decode prog_6_method_11_code 22 = .ok (.aload_n 0, 1) := by decide +kernel
theorem d_Q_funcOf_23 : decode prog_6_method_11_code 23 = .ok (.ldc 114, 2) := by decide +kernel
theorem d_Q_funcOf_25 : decode prog_6_method_11_code 25 = .ok (.invokevirtual 97, 3) := by decide +kernel
theorem d_Q_funcOf_28 : decode prog_6_method_11_code 28 = .ok (.ifCond .eq 5, 3) := by decide +kernel
theorem d_Q_funcOf_33 : decode prog_6_method_11_code 33 = .ok (.aload_n 0, 1) := by decide +kernel
theorem d_Q_funcOf_34 : decode prog_6_method_11_code 34 = .ok (.ldc 116, 2) := by decide +kernel
theorem d_Q_funcOf_36 : decode prog_6_method_11_code 36 = .ok (.invokevirtual 97, 3) := by decide +kernel
theorem d_Q_funcOf_39 : decode prog_6_method_11_code 39 = .ok (.ifCond .eq 5, 3) := by decide +kernel
theorem d_Q_funcOf_44 : decode prog_6_method_11_code 44 = .ok (.aload_n 0, 1) := by decide +kernel
theorem d_Q_funcOf_45 : decode prog_6_method_11_code 45 = .ok (.ldc 118, 2) := by decide +kernel
theorem d_Q_funcOf_47 : decode prog_6_method_11_code 47 = .ok (.invokevirtual 97, 3) := by decide +kernel
theorem d_Q_funcOf_50 : decode prog_6_method_11_code 50 = .ok (.ifCond .eq 5, 3) := by decide +kernel
theorem d_Q_funcOf_55 : decode prog_6_method_11_code 55 = .ok (.aload_n 0, 1) := by decide +kernel
theorem d_Q_funcOf_56 : decode prog_6_method_11_code 56 = .ok (.ldc 120, 2) := by decide +kernel
theorem d_Q_funcOf_58 : decode prog_6_method_11_code 58 = .ok (.invokevirtual 97, 3) := by decide +kernel
theorem d_Q_funcOf_61 : decode prog_6_method_11_code 61 = .ok (.ifCond .eq 5, 3) := by decide +kernel
theorem d_Q_funcOf_66 : decode prog_6_method_11_code 66 = .ok (.aload_n 0, 1) := by decide +kernel
theorem d_Q_funcOf_67 : decode prog_6_method_11_code 67 = .ok (.ldc 122, 2) := by decide +kernel
theorem d_Q_funcOf_69 : decode prog_6_method_11_code 69 = .ok (.invokevirtual 97, 3) := by decide +kernel
theorem d_Q_funcOf_72 : decode prog_6_method_11_code 72 = .ok (.ifCond .eq 8, 3) := by decide +kernel
theorem d_Q_funcOf_80 : decode prog_6_method_11_code 80 = .ok (.iconst (-1), 1) := by decide +kernel
theorem d_Q_funcOf_81 : decode prog_6_method_11_code 81 = .ok (.ireturn, 1) := by decide +kernel
theorem d_Q_funcOf_75 : decode prog_6_method_11_code 75 = .ok (.bipush 6, 2) := by decide +kernel
theorem d_Q_funcOf_77 : decode prog_6_method_11_code 77 = .ok (.goto 4, 3) := by decide +kernel
theorem d_Q_funcOf_64 : decode prog_6_method_11_code 64 = .ok (.iconst 5, 1) := by decide +kernel
theorem d_Q_funcOf_65 : decode prog_6_method_11_code 65 = .ok (.ireturn, 1) := by decide +kernel
theorem d_Q_funcOf_53 : decode prog_6_method_11_code 53 = .ok (.iconst 4, 1) := by decide +kernel
theorem d_Q_funcOf_54 : decode prog_6_method_11_code 54 = .ok (.ireturn, 1) := by decide +kernel
theorem d_Q_funcOf_42 : decode prog_6_method_11_code 42 = .ok (.iconst 3, 1) := by decide +kernel
theorem d_Q_funcOf_43 : decode prog_6_method_11_code 43 = .ok (.ireturn, 1) := by decide +kernel
theorem d_Q_funcOf_31 : decode prog_6_method_11_code 31 = .ok (.iconst 2, 1) := by decide +kernel
theorem d_Q_funcOf_32 : decode prog_6_method_11_code 32 = .ok (.ireturn, 1) := by decide +kernel
theorem d_Q_funcOf_20 : decode prog_6_method_11_code 20 = .ok (.iconst 1, 1) := by decide +kernel
theorem d_Q_funcOf_21 : decode prog_6_method_11_code 21 = .ok (.ireturn, 1) := by decide +kernel
theorem d_Q_funcOf_9 : decode prog_6_method_11_code 9 = .ok (.iconst 0, 1) := by decide +kernel
theorem d_Q_funcOf_10 : decode prog_6_method_11_code 10 = .ok (.ireturn, 1) := by decide +kernel
theorem w1619 : Cond.methodLink "SeriesVault$Question" 97 ⟨"SeriesVault$Word", "spells", "(Ljava/lang/String;)Z"⟩ ∈ aW := aw_of (tb_7 (List.mem_of_getElem? (i := 55) rfl)) rfl
theorem w1620 : Cond.code ⟨"SeriesVault$Word", "spells", "(Ljava/lang/String;)Z"⟩ prog_12_method_6_code 3 (some FieldType.boolean) ∈ aW := aw_of (tb_7 (List.mem_of_getElem? (i := 58) rfl)) rfl
theorem w1621 : Cond.instanceMethod ⟨"SeriesVault$Word", "spells", "(Ljava/lang/String;)Z"⟩ ∈ aW := aw_of (tb_7 (List.mem_of_getElem? (i := 56) rfl)) rfl
theorem w1622 : Cond.selects "SeriesVault$Word" ⟨"SeriesVault$Word", "spells", "(Ljava/lang/String;)Z"⟩ ⟨"SeriesVault$Word", "spells", "(Ljava/lang/String;)Z"⟩ ∈ aW := aw_of (tb_7 (List.mem_of_getElem? (i := 57) rfl)) rfl
set_option maxHeartbeats 4000000 in
set_option maxRecDepth 100000 in
theorem v_QfuncOf (l : Launch) (D : va_G) (dA : Nat → ClassId) (sz : Nat) (e0 mi : Nat) (kA vA : Nat → Nat) (fm : Nat) (ws : va_W) (wa : Nat) (L : List Int32) (hwwa : isWo dA ws wa L) (hlwa : L.length ≤ 65536) : Met l ⟨"SeriesVault$Question", "funcOf", "(LSeriesVault$Word;)I"⟩ [Cond.code ⟨"SeriesVault$Question", "funcOf", "(LSeriesVault$Word;)I"⟩ prog_6_method_11_code 1 (some FieldType.int)] { frames := 6, cells := 0, slots := 0, locals := 107 } (pCs D dA e0 mi kA vA fm [.ref wa] (ws) sz) (va_Qi (fun (r9 : Int32) (u9 : Unit) => r9 = fnV L) (fun (u9 : Unit) t9 => bW D (va_A (ws) sz) (ws) t9) (va_A (ws) sz)) 0 0 (va_A (ws) sz) := by
  refine mkS (y := ⟨"SeriesVault$Question", "funcOf", "(LSeriesVault$Word;)I"⟩) (cc := prog_6_method_11_code) (maxL := 1) (av := [.ref wa]) (ws := ws) (sz := sz) (Qc := fun A => va_Qi (fun (r9 : Int32) (u9 : Unit) => r9 = fnV L) (fun (u9 : Unit) t9 => bW D A (ws) t9) A) (by decide) (Nat.le_of_ble_eq_true rfl) ?_
  intro A p e s m below meth c ls hsz hZ hT hM hQ hB
  obtain ⟨hx, hb, hr, hml, hown, hin, hlk, hE, hK, hP, hD, hS, hA, hN, hl⟩ := hB
  have hown : s.vm.findClass "SeriesVault$Question" = some m.cls := hown
  have hl : lv_has ls 1 [(0, .ref wa)] := hl
  obtain ⟨H, hH⟩ : ∃ z, z = s.heap := ⟨_, rfl⟩
  have hP : va_P D vwCl (ws) H := by rw [hH]; exact hP
  have hS : va_S A s.heap H [] := by rw [hH]; exact hS
  rw [← hH]
  have hwc := hwwa
  obtain ⟨b_wa, f_wa, m1wa, -⟩ := hwc
  refine lv_aload_n hx hb d_Q_funcOf_0 rfl (lv_at hl 0 rfl) ?_
  refine va_ldcS hx hb hown (show vk_R "SeriesVault$Question" 110 "sum" (kA 0) s from hQ.2.2.2 0 (by decide)) d_Q_funcOf_1 ?_
  obtain ⟨qp1, ep2⟩ := List.getElem?_of_mem (show ((wa, .inr (10, [.ref b_wa])) : Nat × va_E) ∈ ws from m1wa)
  refine jkI (wr := []) (rnVs (As := [.ref (kA 0)]) (rest := []) hx hb hml hown hE hK hZ hT hM hQ hS (hN _ _ hS) hP hD (v_Wspells l D dA H.size e0 mi kA vA fm ws wa L 0 hwwa hlwa (by decide)) (q0 := qp1) ep2 rfl w1620 w1619 w1621 w1622 w1281 rfl rfl ⟨⟨by decide, by decide⟩, rfl⟩ ⟨(Nat.le_of_ble_eq_true rfl), (Nat.le_of_ble_eq_true rfl)⟩ rfl hl.1 rfl (Nat.le_of_ble_eq_true rfl) d_Q_funcOf_3 ⟨(Nat.le_of_ble_eq_true rfl), (Nat.le_of_ble_eq_true rfl)⟩) hP hD hS hA (fun r3 u4 H locs hp9 hP hD hS => ?_)
  have hP : va_P D vwCl (ws) H := hP
  have hD : va_D A (ws) := hD
  replace hp9 : bI (sameW L (qsW 0)) = r3 := Eq.symm hp9
  subst hp9
  refine lv_if_eq hx hb d_Q_funcOf_6 (tgt := 11) rfl (fun g5 => ?_) (fun g5 => ?_)
  · have g5 := bI_0 g5
    refine lv_aload_n hx hb d_Q_funcOf_11 rfl (lv_at hl 0 rfl) ?_
    refine va_ldcS hx hb hown (show vk_R "SeriesVault$Question" 112 "count" (kA 1) s from hQ.2.2.2 1 (by decide)) d_Q_funcOf_12 ?_
    obtain ⟨qp6, ep7⟩ := List.getElem?_of_mem (show ((wa, .inr (10, [.ref b_wa])) : Nat × va_E) ∈ ws from m1wa)
    refine jkI (wr := []) (rnVs (As := [.ref (kA 1)]) (rest := []) hx hb hml hown hE hK hZ hT hM hQ hS (hN _ _ hS) hP hD (v_Wspells l D dA H.size e0 mi kA vA fm ws wa L 1 hwwa hlwa (by decide)) (q0 := qp6) ep7 rfl w1620 w1619 w1621 w1622 w1281 rfl rfl ⟨⟨by decide, by decide⟩, rfl⟩ ⟨(Nat.le_of_ble_eq_true rfl), (Nat.le_of_ble_eq_true rfl)⟩ rfl hl.1 rfl (Nat.le_of_ble_eq_true rfl) d_Q_funcOf_14 ⟨(Nat.le_of_ble_eq_true rfl), (Nat.le_of_ble_eq_true rfl)⟩) hP hD hS hA (fun r8 u9 H locs hp9 hP hD hS => ?_)
    have hP : va_P D vwCl (ws) H := hP
    have hD : va_D A (ws) := hD
    replace hp9 : bI (sameW L (qsW 1)) = r8 := Eq.symm hp9
    subst hp9
    refine lv_if_eq hx hb d_Q_funcOf_17 (tgt := 22) rfl (fun g10 => ?_) (fun g10 => ?_)
    · have g10 := bI_0 g10
      refine lv_aload_n hx hb d_Q_funcOf_22 rfl (lv_at hl 0 rfl) ?_
      refine va_ldcS hx hb hown (show vk_R "SeriesVault$Question" 114 "least" (kA 2) s from hQ.2.2.2 2 (by decide)) d_Q_funcOf_23 ?_
      obtain ⟨qp11, ep12⟩ := List.getElem?_of_mem (show ((wa, .inr (10, [.ref b_wa])) : Nat × va_E) ∈ ws from m1wa)
      refine jkI (wr := []) (rnVs (As := [.ref (kA 2)]) (rest := []) hx hb hml hown hE hK hZ hT hM hQ hS (hN _ _ hS) hP hD (v_Wspells l D dA H.size e0 mi kA vA fm ws wa L 2 hwwa hlwa (by decide)) (q0 := qp11) ep12 rfl w1620 w1619 w1621 w1622 w1281 rfl rfl ⟨⟨by decide, by decide⟩, rfl⟩ ⟨(Nat.le_of_ble_eq_true rfl), (Nat.le_of_ble_eq_true rfl)⟩ rfl hl.1 rfl (Nat.le_of_ble_eq_true rfl) d_Q_funcOf_25 ⟨(Nat.le_of_ble_eq_true rfl), (Nat.le_of_ble_eq_true rfl)⟩) hP hD hS hA (fun r13 u14 H locs hp9 hP hD hS => ?_)
      have hP : va_P D vwCl (ws) H := hP
      have hD : va_D A (ws) := hD
      replace hp9 : bI (sameW L (qsW 2)) = r13 := Eq.symm hp9
      subst hp9
      refine lv_if_eq hx hb d_Q_funcOf_28 (tgt := 33) rfl (fun g15 => ?_) (fun g15 => ?_)
      · have g15 := bI_0 g15
        refine lv_aload_n hx hb d_Q_funcOf_33 rfl (lv_at hl 0 rfl) ?_
        refine va_ldcS hx hb hown (show vk_R "SeriesVault$Question" 116 "most" (kA 3) s from hQ.2.2.2 3 (by decide)) d_Q_funcOf_34 ?_
        obtain ⟨qp16, ep17⟩ := List.getElem?_of_mem (show ((wa, .inr (10, [.ref b_wa])) : Nat × va_E) ∈ ws from m1wa)
        refine jkI (wr := []) (rnVs (As := [.ref (kA 3)]) (rest := []) hx hb hml hown hE hK hZ hT hM hQ hS (hN _ _ hS) hP hD (v_Wspells l D dA H.size e0 mi kA vA fm ws wa L 3 hwwa hlwa (by decide)) (q0 := qp16) ep17 rfl w1620 w1619 w1621 w1622 w1281 rfl rfl ⟨⟨by decide, by decide⟩, rfl⟩ ⟨(Nat.le_of_ble_eq_true rfl), (Nat.le_of_ble_eq_true rfl)⟩ rfl hl.1 rfl (Nat.le_of_ble_eq_true rfl) d_Q_funcOf_36 ⟨(Nat.le_of_ble_eq_true rfl), (Nat.le_of_ble_eq_true rfl)⟩) hP hD hS hA (fun r18 u19 H locs hp9 hP hD hS => ?_)
        have hP : va_P D vwCl (ws) H := hP
        have hD : va_D A (ws) := hD
        replace hp9 : bI (sameW L (qsW 3)) = r18 := Eq.symm hp9
        subst hp9
        refine lv_if_eq hx hb d_Q_funcOf_39 (tgt := 44) rfl (fun g20 => ?_) (fun g20 => ?_)
        · have g20 := bI_0 g20
          refine lv_aload_n hx hb d_Q_funcOf_44 rfl (lv_at hl 0 rfl) ?_
          refine va_ldcS hx hb hown (show vk_R "SeriesVault$Question" 118 "first" (kA 4) s from hQ.2.2.2 4 (by decide)) d_Q_funcOf_45 ?_
          obtain ⟨qp21, ep22⟩ := List.getElem?_of_mem (show ((wa, .inr (10, [.ref b_wa])) : Nat × va_E) ∈ ws from m1wa)
          refine jkI (wr := []) (rnVs (As := [.ref (kA 4)]) (rest := []) hx hb hml hown hE hK hZ hT hM hQ hS (hN _ _ hS) hP hD (v_Wspells l D dA H.size e0 mi kA vA fm ws wa L 4 hwwa hlwa (by decide)) (q0 := qp21) ep22 rfl w1620 w1619 w1621 w1622 w1281 rfl rfl ⟨⟨by decide, by decide⟩, rfl⟩ ⟨(Nat.le_of_ble_eq_true rfl), (Nat.le_of_ble_eq_true rfl)⟩ rfl hl.1 rfl (Nat.le_of_ble_eq_true rfl) d_Q_funcOf_47 ⟨(Nat.le_of_ble_eq_true rfl), (Nat.le_of_ble_eq_true rfl)⟩) hP hD hS hA (fun r23 u24 H locs hp9 hP hD hS => ?_)
          have hP : va_P D vwCl (ws) H := hP
          have hD : va_D A (ws) := hD
          replace hp9 : bI (sameW L (qsW 4)) = r23 := Eq.symm hp9
          subst hp9
          refine lv_if_eq hx hb d_Q_funcOf_50 (tgt := 55) rfl (fun g25 => ?_) (fun g25 => ?_)
          · have g25 := bI_0 g25
            refine lv_aload_n hx hb d_Q_funcOf_55 rfl (lv_at hl 0 rfl) ?_
            refine va_ldcS hx hb hown (show vk_R "SeriesVault$Question" 120 "latest" (kA 5) s from hQ.2.2.2 5 (by decide)) d_Q_funcOf_56 ?_
            obtain ⟨qp26, ep27⟩ := List.getElem?_of_mem (show ((wa, .inr (10, [.ref b_wa])) : Nat × va_E) ∈ ws from m1wa)
            refine jkI (wr := []) (rnVs (As := [.ref (kA 5)]) (rest := []) hx hb hml hown hE hK hZ hT hM hQ hS (hN _ _ hS) hP hD (v_Wspells l D dA H.size e0 mi kA vA fm ws wa L 5 hwwa hlwa (by decide)) (q0 := qp26) ep27 rfl w1620 w1619 w1621 w1622 w1281 rfl rfl ⟨⟨by decide, by decide⟩, rfl⟩ ⟨(Nat.le_of_ble_eq_true rfl), (Nat.le_of_ble_eq_true rfl)⟩ rfl hl.1 rfl (Nat.le_of_ble_eq_true rfl) d_Q_funcOf_58 ⟨(Nat.le_of_ble_eq_true rfl), (Nat.le_of_ble_eq_true rfl)⟩) hP hD hS hA (fun r28 u29 H locs hp9 hP hD hS => ?_)
            have hP : va_P D vwCl (ws) H := hP
            have hD : va_D A (ws) := hD
            replace hp9 : bI (sameW L (qsW 5)) = r28 := Eq.symm hp9
            subst hp9
            refine lv_if_eq hx hb d_Q_funcOf_61 (tgt := 66) rfl (fun g30 => ?_) (fun g30 => ?_)
            · have g30 := bI_0 g30
              refine lv_aload_n hx hb d_Q_funcOf_66 rfl (lv_at hl 0 rfl) ?_
              refine va_ldcS hx hb hown (show vk_R "SeriesVault$Question" 122 "growth" (kA 6) s from hQ.2.2.2 6 (by decide)) d_Q_funcOf_67 ?_
              obtain ⟨qp31, ep32⟩ := List.getElem?_of_mem (show ((wa, .inr (10, [.ref b_wa])) : Nat × va_E) ∈ ws from m1wa)
              refine jkI (wr := []) (rnVs (As := [.ref (kA 6)]) (rest := []) hx hb hml hown hE hK hZ hT hM hQ hS (hN _ _ hS) hP hD (v_Wspells l D dA H.size e0 mi kA vA fm ws wa L 6 hwwa hlwa (by decide)) (q0 := qp31) ep32 rfl w1620 w1619 w1621 w1622 w1281 rfl rfl ⟨⟨by decide, by decide⟩, rfl⟩ ⟨(Nat.le_of_ble_eq_true rfl), (Nat.le_of_ble_eq_true rfl)⟩ rfl hl.1 rfl (Nat.le_of_ble_eq_true rfl) d_Q_funcOf_69 ⟨(Nat.le_of_ble_eq_true rfl), (Nat.le_of_ble_eq_true rfl)⟩) hP hD hS hA (fun r33 u34 H locs hp9 hP hD hS => ?_)
              have hP : va_P D vwCl (ws) H := hP
              have hD : va_D A (ws) := hD
              replace hp9 : bI (sameW L (qsW 6)) = r33 := Eq.symm hp9
              subst hp9
              refine lv_if_eq hx hb d_Q_funcOf_72 (tgt := 80) rfl (fun g35 => ?_) (fun g35 => ?_)
              · have g35 := bI_0 g35
                refine lv_iconst (v := (-1)) hx hb d_Q_funcOf_80 (by decide) ?_
                exact rfI hx hb hr hlk hS () (by unfold fnV; rw [if_neg (by rw [g5]; decide), if_neg (by rw [g10]; decide), if_neg (by rw [g15]; decide), if_neg (by rw [g20]; decide), if_neg (by rw [g25]; decide), if_neg (by rw [g30]; decide), if_neg (by rw [g35]; decide)]) hP hD (Nat.le_of_ble_eq_true rfl) (Nat.le_of_ble_eq_true rfl) d_Q_funcOf_81
              · have g35 := bI_n0 g35
                refine lv_bipush (v := 6) hx hb d_Q_funcOf_75 (by decide) ?_
                refine lv_goto hx hb d_Q_funcOf_77 (tgt := 81) rfl ?_
                exact rfI hx hb hr hlk hS () (by unfold fnV; rw [if_neg (by rw [g5]; decide), if_neg (by rw [g10]; decide), if_neg (by rw [g15]; decide), if_neg (by rw [g20]; decide), if_neg (by rw [g25]; decide), if_neg (by rw [g30]; decide), if_pos g35]) hP hD (Nat.le_of_ble_eq_true rfl) (Nat.le_of_ble_eq_true rfl) d_Q_funcOf_81
            · have g30 := bI_n0 g30
              refine lv_iconst (v := 5) hx hb d_Q_funcOf_64 (by decide) ?_
              exact rfI hx hb hr hlk hS () (by unfold fnV; rw [if_neg (by rw [g5]; decide), if_neg (by rw [g10]; decide), if_neg (by rw [g15]; decide), if_neg (by rw [g20]; decide), if_neg (by rw [g25]; decide), if_pos g30]) hP hD (Nat.le_of_ble_eq_true rfl) (Nat.le_of_ble_eq_true rfl) d_Q_funcOf_65
          · have g25 := bI_n0 g25
            refine lv_iconst (v := 4) hx hb d_Q_funcOf_53 (by decide) ?_
            exact rfI hx hb hr hlk hS () (by unfold fnV; rw [if_neg (by rw [g5]; decide), if_neg (by rw [g10]; decide), if_neg (by rw [g15]; decide), if_neg (by rw [g20]; decide), if_pos g25]) hP hD (Nat.le_of_ble_eq_true rfl) (Nat.le_of_ble_eq_true rfl) d_Q_funcOf_54
        · have g20 := bI_n0 g20
          refine lv_iconst (v := 3) hx hb d_Q_funcOf_42 (by decide) ?_
          exact rfI hx hb hr hlk hS () (by unfold fnV; rw [if_neg (by rw [g5]; decide), if_neg (by rw [g10]; decide), if_neg (by rw [g15]; decide), if_pos g20]) hP hD (Nat.le_of_ble_eq_true rfl) (Nat.le_of_ble_eq_true rfl) d_Q_funcOf_43
      · have g15 := bI_n0 g15
        refine lv_iconst (v := 2) hx hb d_Q_funcOf_31 (by decide) ?_
        exact rfI hx hb hr hlk hS () (by unfold fnV; rw [if_neg (by rw [g5]; decide), if_neg (by rw [g10]; decide), if_pos g15]) hP hD (Nat.le_of_ble_eq_true rfl) (Nat.le_of_ble_eq_true rfl) d_Q_funcOf_32
    · have g10 := bI_n0 g10
      refine lv_iconst (v := 1) hx hb d_Q_funcOf_20 (by decide) ?_
      exact rfI hx hb hr hlk hS () (by unfold fnV; rw [if_neg (by rw [g5]; decide), if_pos g10]) hP hD (Nat.le_of_ble_eq_true rfl) (Nat.le_of_ble_eq_true rfl) d_Q_funcOf_21
  · have g5 := bI_n0 g5
    refine lv_iconst (v := 0) hx hb d_Q_funcOf_9 (by decide) ?_
    exact rfI hx hb hr hlk hS () (by unfold fnV; rw [if_pos g5]) hP hD (Nat.le_of_ble_eq_true rfl) (Nat.le_of_ble_eq_true rfl) d_Q_funcOf_10
