/-! Methods that read java.util.ArrayList's shared empty array: its address e0 goes along; nobody writes it. -/
abbrev zZ (e0 : Nat) (A : Nat → Prop) (U : State) (H : Heap) : Prop := va_Z "java/util/ArrayList" "DEFAULTCAPACITY_EMPTY_ELEMENTDATA" "[Ljava/lang/Object;" (.ref e0) A U H
abbrev zT (e0 : Nat) (A : Nat → Prop) (U : State) (H : Heap) : Prop := va_T (.object "java/lang/Object") e0 0 (fun _ => Value.null) A U H
def pCz (D : va_G) (dA : Nat → ClassId) (e0 : Nat) (av : List Value) (ws : va_W) (sz : Nat) : Array Value → State → Prop := fun a U => pC D dA av ws sz a U ∧ zZ e0 (fun _ => False) U U.heap ∧ zT e0 (fun _ => False) U U.heap ∧ ¬ va_A ws sz e0
theorem pCz_blind {D : va_G} {dA : Nat → ClassId} {e0 : Nat} {av : List Value} {ws : va_W} {sz : Nat} : FrameBlind (pCz D dA e0 av ws sz) := by
  intro a U g mk q
  obtain ⟨q0, qz, qt, qn⟩ := q
  exact ⟨pC_blind a U g mk q0, va_Z.moved (u := U) (U := U.calling g mk a) (Vm.Alike.refl U.vm) qz, va_T.moved (u := U) (U := U.calling g mk a) (Vm.Alike.refl U.vm) qt, qn⟩
theorem zZ_in {D : va_G} {ws : va_W} {sz e0 : Nat} {s : State} (hP : va_P D vwCl ws s.heap) (hsz : s.heap.size = sz) (h : zZ e0 (fun _ => False) s s.heap) : zZ e0 (va_A ws sz) s s.heap := by
  obtain ⟨cf, kf, fi, f, a, cell, h1, h2, h3, h4, h5, h6, h7, -⟩ := h
  refine ⟨cf, kf, fi, f, a, cell, h1, h2, h3, h4, h5, h6, h7, fun hq => ?_⟩
  subst hsz
  have h8 := ns_A hP hq h5
  rw [h6] at h8
  cases h8
theorem zT_in {ws : va_W} {sz e0 : Nat} {s : State} (hn : ¬ va_A ws sz e0) (h : zT e0 (fun _ => False) s s.heap) : zT e0 (va_A ws sz) s s.heap := by
  obtain ⟨cell, h1, h2, h3, h4, h5, h6, -⟩ := h
  exact ⟨cell, h1, h2, h3, h4, h5, h6, hn⟩
section RZ
variable {p : Program} {l : Launch} {e : Env} {R : Room} {s : State} {m : MethodId} {args : Array Value} {below : List Frame} {meth : Method} {c : Code} {H : Heap} {locs : List Loc} {cells slots : Nat} {Q : State → Prop}
variable {D : va_G} {dA : Nat → ClassId} {A : Nat → Prop} {cc : ByteArray} {pc : Nat} {ls : Array Slot} {rest st0 : List Value} {ws wc wr : va_W} {e0 : Nat}
theorem pre_z {av : List Value} (hE : eV s) (hK : va_K D vwCl (arT dA) s) (hZ : zZ e0 A s s.heap) (hT : zT e0 A s s.heap) (hS : va_S A s.heap H locs) (hN : sK s.heap H) (hP : va_P D vwCl wc H) (hD : va_D A wc) : ∀ U : State, U.heap = H → s.WarmedH U.vm → pCz D dA e0 av wc H.size av.toArray U := by
  intro U hU hW
  refine ⟨pre_1 hE hK hN hP hD U hU hW, ?_, ?_, ?_⟩
  · have h1 : zZ e0 A s U.heap := va_Z.kept hZ (fun a h1 h2 => by rw [hU]; exact hS.2.1 a h1 h2)
    exact va_Z.moved (u := s) (U := U) hW.alike (va_Z.narrow h1 (fun _ h => h.elim))
  · have h1 : zT e0 A s U.heap := va_T.kept hT (fun a h1 h2 => by rw [hU]; exact hS.2.1 a h1 h2)
    exact va_T.moved (u := s) (U := U) hW.alike (va_T.narrow h1 (fun _ h => h.elim))
  · intro hq
    have ho := hT.out
    obtain ⟨cell, h1, -⟩ := hT
    have h2 := (Array.getElem?_eq_some_iff.mp h1).1
    have h3 := hS.1
    rcases hq with ⟨k, q, h⟩ | h
    · exact ho (hD.2 k _ h)
    · omega
/-- invokevirtual of a method of the receiver's own class -/
theorem rnVz {y : MethodName} {bytes : ByteArray} {maxL mc ms n index nL : Nat} {ret : Option FieldType} {rm : Room} {Qc : Array Value → State → Outcome → State → Prop} {free : Addr → Prop} {own C : String} {T : u_T} {N ci q0 : Nat} {fs : List Value} {b : Nat} {As : List Value}
    (hx : p.tables.exec = Jvm.exec) (hb : c.code = cc) (hml : c.maxLocals = nL) (hown : s.vm.findClass own = some m.cls) (hE : eV s) (hK : va_K D vwCl (arT dA) s) (hZ : zZ e0 A s s.heap) (hT : zT e0 A s s.heap) (hS : va_S A s.heap H locs) (hN : sK s.heap H) (hP : va_P D vwCl wc H) (hD : va_D A wc)
    (hM : Met l y [Cond.code y bytes maxL ret] rm (pCz D dA e0 (.ref b :: As) wc H.size) Qc mc ms free) (he : wc[q0]? = some (b, .inr (ci, fs))) (hcl : vwCl[ci]? = some (C, T, N))
    (hc : Cond.code y bytes maxL ret ∈ aW) (hl : Cond.methodLink own index y ∈ aW) (hi : Cond.instanceMethod y ∈ aW) (hse : Cond.selects C y y ∈ aW) (hini : Cond.initialized y.cls ∈ aW) (hrc : rm.cells = mc) (hrs : rm.slots = ms)
    (hd : (y.cls ≠ "java/lang/invoke/MethodHandle" ∧ y.cls ≠ "java/lang/invoke/VarHandle") ∧ (parseMethodDescriptor y.desc).map (fun d => d.parameters.length) = some n) (hR : rm.frames + 1 ≤ R.frames ∧ 8 + (maxL + 11) + rm.locals ≤ R.locals)
    (hn : As.length = n) (hsize : ls.size = nL) (hst : st0 = As.reverse ++ .ref b :: rest) (hW : (rest.map fun v => v.category).sum ≤ 8) (hdg : decode cc pc = .ok (.invokevirtual index, 3)) (hf : cells + mc ≤ R.cells ∧ slots + ms ≤ R.slots) :
    va_Run p l e R s m args below meth c H locs cells slots mc ms (F0 m pc ls st0) rest (Qc (Value.ref b :: As).toArray) free :=
  va_runV (Ts := []) ⟨hx, hb, hml, hown, fun _ h => nomatch h⟩ hM ⟨cB_1 hE hc hl hini hrc hrs hd hR, hE.t hi rfl, hE.t hse rfl⟩ ⟨pCz_blind, va_recv hK hP hcl he, pre_z hE hK hZ hT hS hN hP hD⟩ rfl hn hsize hst (lv_room hW) hdg hf
/-- invokespecial of a constructor -/
theorem rnIz {y : MethodName} {bytes : ByteArray} {maxL mc ms n index nL : Nat} {rm : Room} {Qc : Array Value → State → Outcome → State → Prop} {free : Addr → Prop} {own : String} {b : Nat} {As : List Value}
    (hx : p.tables.exec = Jvm.exec) (hb : c.code = cc) (hml : c.maxLocals = nL) (hown : s.vm.findClass own = some m.cls) (hE : eV s) (hK : va_K D vwCl (arT dA) s) (hZ : zZ e0 A s s.heap) (hT : zT e0 A s s.heap) (hS : va_S A s.heap H locs) (hN : sK s.heap H) (hP : va_P D vwCl wc H) (hD : va_D A wc)
    (hM : Met l y [Cond.code y bytes maxL none] rm (pCz D dA e0 (.ref b :: As) wc H.size) Qc mc ms free)
    (hc : Cond.code y bytes maxL none ∈ aW) (hl : Cond.methodLink own index y ∈ aW) (hi : Cond.instanceMethod y ∈ aW) (hini : Cond.initialized y.cls ∈ aW) (hy : y.name = "<init>") (hrc : rm.cells = mc) (hrs : rm.slots = ms)
    (hd : (y.cls ≠ "java/lang/invoke/MethodHandle" ∧ y.cls ≠ "java/lang/invoke/VarHandle") ∧ (parseMethodDescriptor y.desc).map (fun d => d.parameters.length) = some n) (hR : rm.frames + 1 ≤ R.frames ∧ 8 + (maxL + 11) + rm.locals ≤ R.locals)
    (hn : As.length = n) (hsize : ls.size = nL) (hst : st0 = As.reverse ++ .ref b :: rest) (hW : (rest.map fun v => v.category).sum ≤ 8) (hdg : decode cc pc = .ok (.invokespecial index, 3)) (hf : cells + mc ≤ R.cells ∧ slots + ms ≤ R.slots) :
    va_Run p l e R s m args below meth c H locs cells slots mc ms (F0 m pc ls st0) rest (Qc (Value.ref b :: As).toArray) free :=
  va_runI (Ts := []) ⟨hx, hb, hml, hown, fun _ h => nomatch h⟩ hM ⟨cB_1 hE hc hl hini hrc hrs hd hR, hy, hE.t hi rfl⟩ ⟨pCz_blind, pre_z hE hK hZ hT hS hN hP hD⟩ rfl hn hsize hst (lv_room hW) hdg hf
end RZ
theorem mkZ {l : Launch} {y : MethodName} {cc : ByteArray} {maxL : Nat} {ret : Option FieldType} {rm : Room} {D : va_G} {dA : Nat → ClassId} {e0 : Nat} {av : List Value} {ws : va_W} {sz mc ms : Nat} {Qc : (Nat → Prop) → Array Value → State → Outcome → State → Prop}
    (hy : plainName y.cls = true) (hlen : (lg_sl av).length ≤ maxL)
    (body : ∀ (A : Nat → Prop) (p : Program) (e : Env) (s : State) (m : MethodId) (below : List Frame) (meth : Method) (c : Code) (ls : Array Slot), s.heap.size = sz → zZ e0 A s s.heap → zT e0 A s s.heap → bS p s m meth c cc ret maxL y D dA ws A av ls →
      W p l e rm s m av.toArray below meth c s.heap [] 0 0 (MQ below (Qc A) av.toArray s mc ms A) (F0 m 0 ls [])) :
    Met l y [Cond.code y cc maxL ret] rm (pCz D dA e0 av ws sz) (Qc (va_A ws sz)) mc ms (va_A ws sz) := by
  refine Met.ofW (cc := cc) (maxL := maxL) (ret := ret) hy rfl ?_
  intro p e s m args below meth c s₁ B hml hv
  obtain ⟨⟨rfl, hsz, hP, hK, hD0, hE⟩, hZ, hT, hn⟩ := hv
  have hA : ∀ q : Nat, s.heap.size ≤ q → va_A ws sz q := fun q h => by rw [← hsz]; exact Or.inr h
  have hl := lv_entry av (n := maxL) hlen
  rw [lg_entry_eq]
  exact body (va_A ws sz) p e s m below meth c _ hsz (zZ_in hP hsz hZ) (zT_in hn hT) ⟨B.exec, B.bytes, B.returns, hml, findClass_of_methodNamed B.named, (name_of_methodNamed B.named B.method).1, B.notSynchronized, hE, hK, hP, hD0.self, va_S.rf, hA, fun H L h => by subst hsz; exact sK_of hP h, hl⟩
