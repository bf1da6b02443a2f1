/-! Methods that throw: contracts, the throw itself, the way out, the catch. -/
/-- what a body that throws an E owes at its end -/
def xQ (below : List Frame) (E : String) (B : State → State → Prop) (s : State) (mc ms : Nat) (free : Addr → Prop) : State → Prop := fun t =>
  ∃ (x : Addr) (ce : Cell), t.status = .running ∧ Ended t below (.threw x) ∧ t.heap[x]? = some ce ∧ ce.vm = .none ∧ s.vm.findClass E = some ce.cls ∧ s.WarmedH t.vm ∧ (∃ L, s.sameButNew ({ t with vm := s.vm } : State) L mc ms ∧ ∀ z ∈ L, free z.base) ∧ B s t
/-- a method that throws an E -/
def mX (l : Launch) (y : MethodName) (ws : List Cond) (rm : Room) (Pc : Array Value → State → Prop) (E : String) (B : State → State → Prop) (mc ms : Nat) (free : Addr → Prop) : Prop :=
  MetFree l y (headSpec ws rm) Pc (fun _ _ _ _ _ => True) (fun _ st o t => ∃ (x : Addr) (ce : Cell), o = .threw x ∧ t.heap[x]? = some ce ∧ ce.vm = .none ∧ st.vm.findClass E = some ce.cls ∧ st.WarmedH t.vm ∧ (∃ L, st.sameButNew ({ t with vm := st.vm } : State) L mc ms ∧ ∀ z ∈ L, free z.base) ∧ B st t)
theorem mX.ofW {l : Launch} {y : MethodName} {ws ws' : List Cond} {rm : Room} {Pc : Array Value → State → Prop} {E : String} {B : State → State → Prop} {mc ms : Nat} {free : Addr → Prop} {cc : ByteArray} {maxL : Nat} {ret : Option FieldType}
    (hy : plainName y.cls = true) (hw : ws = Cond.code y cc maxL ret :: ws')
    (body : ∀ p e s m args below meth c s₁, BodyLoose p l y (headSpec ws rm) cc maxL ret e s m args below meth c s₁ → c.maxLocals = maxL → (∀ x ∈ c.exceptionTable.toList, False) → Pc args s →
      W p l e (headSpec ws rm).room s m args below meth c s.heap [] 0 0 (xQ below E B s mc ms free) (entryFrame m args maxL)) : mX l y ws rm Pc E B mc ms free := by
  refine MetFree.of_bodyS (code := cc) (maxLocals := maxL) (ret := ret) hy ?_ ?_
  · intro args s m h hn
    obtain ⟨meth, c, h1, h2, h3, h4, h5, h6, -, -⟩ := Cond.code_spec hn (atoms_spec (ws := ws) h _ (by rw [hw]; exact List.mem_cons_self))
    exact ⟨meth, c, h1, h2, h3, h4, h5, h6⟩
  · intro p e s m args below meth c s₁ B0 hml hP _
    have hh0 : s₁.heap = s.heap := by rw [B0.state]; rfl
    have hno : c.exceptionTable.isEmpty = true := B0.noHandlers (atoms_spec (ws := ws) B0.pre _ (by rw [hw]; exact List.mem_cons_self))
    obtain ⟨t, a1, x, ce, b1, b2, b3⟩ := body p e s m args below meth c s₁ B0 hml (fun x hx => by rw [Array.isEmpty_iff.mp hno] at hx; cases hx) hP s₁ hh0 (Stand.of_body B0)
    exact ⟨t, .threw x, a1, b1, b2, x, ce, rfl, b3⟩
/-- the frame g, with x thrown over it -/
def wX (p : Program) (l : Launch) (e : Env) (R : Room) (s : State) (m : MethodId) (args : Array Value) (below : List Frame) (meth : Method) (c : Code) (H : Heap) (locs : List Loc) (cells slots : Nat) (Q : State → Prop) (g : JFrame) (x : Addr) : Prop :=
  ∀ T : State, T.heap = H → Stand p l e R s m args below meth c T locs cells slots → ∃ t, Steps p.tables e below ((T.setTop g).pushFrame (.throwing x)) t ∧ Q t
section XR
variable {p : Program} {l : Launch} {e : Env} {R : Room} {s : State} {m : MethodId} {args : Array Value} {below : List Frame} {meth : Method} {c : Code} {H : Heap} {locs : List Loc} {cells slots : Nat} {Q : State → Prop}
variable {D : va_G} {dA : Nat → ClassId} {A : Nat → Prop} {cc : ByteArray} {pc : Nat} {ls : Array Slot} {rest st0 : List Value} {ws wc wr : va_W}
/-- into a callee that throws, and back over the caller's frame -/
theorem xBack {T : State} (X : Stand p l e R s m args below meth c T locs cells slots) {g : JFrame} (hg : g.method = m) (hsize : g.locals.size = c.maxLocals) {ig : Instr} {len : Nat} (hdg : decode c.code g.pc = .ok (ig, len)) (hW : 2 * g.monitorRoom + (g.stack.map fun v => v.category).sum ≤ 8)
    {y : MethodName} {bytes : ByteArray} {maxL mc ms : Nat} {ret : Option FieldType} {rm : Room} {Pc : Array Value → State → Prop} {E : String} {B : State → State → Prop} {free : Addr → Prop} {mk : MethodId} {a : Array Value}
    (hn : T.methodNamed? y = some mk) (hM : mX l y [Cond.code y bytes maxL ret] rm Pc E B mc ms free) (hPc : Pc a (T.calling g mk a)) (hcode : (Cond.code y bytes maxL ret).before a T = true) (hini : (Cond.initialized y.cls).before a T = true)
    (hrc : rm.cells = mc) (hrs : rm.slots = ms) (hR : rm.frames + 1 ≤ R.frames ∧ 8 + (maxL + 11) + rm.locals ≤ R.locals) (hf : cells + mc ≤ R.cells ∧ slots + ms ≤ R.slots) :
    ∃ (x : Addr) (ce : Cell) (T' t : State) (L : List Loc), Stand p l e R s m args below meth c T' (locs ++ L) (cells + mc) (slots + ms) ∧ (∀ z ∈ L, free z.base) ∧ T'.heap = t.heap ∧ t.heap[x]? = some ce ∧ ce.vm = .none ∧ T.vm.findClass E = some ce.cls ∧ B (T.calling g mk a) t ∧
      Steps p.tables e below (doInvoke e (T.setTop g) [] mk a).1 ((T'.setTop g).pushFrame (.throwing x)) := by
  subst hrc; subst hrs
  have hpre : (headSpec [Cond.code y bytes maxL ret] rm).pre.before a T = true := atoms_intro fun w hw => by
    have hw' : w = Cond.code y bytes maxL ret := by simpa using hw
    subst hw'; exact hcode
  obtain ⟨methY, cY, hmY, hcY, -, hlY, -, -, -, -⟩ := Cond.code_spec hn hcode
  obtain ⟨kY, hkY, -⟩ := className_of_methodNamed hn
  have hinitY : kY.init = .initialized := Cond.initialized_spec (findClass_of_methodNamed hn) hkY hini
  have h : At T g.method c below := by rw [hg]; exact X.here
  have hroom := X.room_calling (g := g) (R' := rm) (args' := a) hsize hmY hcY hR.1 (by rw [hlY]; have := hR.2; omega) hf.1 hf.2
  have happ : (headSpec [Cond.code y bytes maxL ret] rm).appliesLoose y e.platform (T.calling g mk a) = true := Spec.appliesLoose_calling (g := g) h hdg hn hkY hinitY hroom hpre
  have hfr : (T.setTop g).frames = [.java g] ++ below := by rw [State.frames_setTop' g h.top, X.tail]; rfl
  obtain ⟨o, t, hsteps, -, hend, x, ce, rfl, hce, hcv, hcl, hWt, ⟨L, hsm, hL⟩, hB⟩ := Steps.callFree hM p X.admits X.cas X.clock (acts := []) hfr happ hPc trivial
  rw [State.frames_setTop' g h.top, X.tail] at hend
  obtain ⟨T', X', hW', hsm', ht⟩ := X.outOfThrown hg hend hWt hsm
  refine ⟨x, ce, T', t, L, X', hL, ?_, hce, hcv, hcl, hB, ?_⟩
  · rw [ht]; exact (Stand.throwing_heap T' g x).symm
  · rw [← ht]; exact hsteps
theorem fX {T : State} {vm₁ : Vm} {E : String} {k : ClassId} (hW : s.WarmedH vm₁) (h : (T.setVm vm₁).vm.findClass E = some k) : s.vm.findClass E = some k := by
  have h1 : vm₁.findClass E = some k := h
  rw [hW.alike.findClass] at h1
  exact h1
/-- invokevirtual of a method that throws; its world is forgotten, the rest stands as it did -/
theorem xnV {y : MethodName} {bytes : ByteArray} {maxL mc ms n index nL : Nat} {ret : Option FieldType} {rm : Room} {E : String} {w1 : va_W} {own C : String} {T : u_T} {N ci q0 : Nat} {fs : List Value} {b : Nat} {As : List Value}
    (hx : p.tables.exec = Jvm.exec) (hb : c.code = cc) (hml : c.maxLocals = nL) (hown : s.vm.findClass own = some m.cls) (hE : eV s) (hK : va_K D vwCl (arT dA) s) (hN : sK s.heap H) (hPc : va_P D vwCl wc H) (hDc : va_D A wc)
    (hM : mX l y [Cond.code y bytes maxL ret] rm (pC D dA (.ref b :: As) wc H.size) E (fun st t => va_F (va_A wc H.size) st t ∧ bW D (va_A wc H.size) w1 t) mc ms (va_A wc H.size)) (he : wc[q0]? = some (b, .inr (ci, fs))) (hcl : vwCl[ci]? = some (C, T, N))
    (hc : Cond.code y bytes maxL ret ∈ aW) (hl : Cond.methodLink own index y ∈ aW) (hi : Cond.instanceMethod y ∈ aW) (hse : Cond.selects C y y ∈ aW) (hini : Cond.initialized y.cls ∈ aW) (hrc : rm.cells = mc) (hrs : rm.slots = ms)
    (hd : (y.cls ≠ "java/lang/invoke/MethodHandle" ∧ y.cls ≠ "java/lang/invoke/VarHandle") ∧ (parseMethodDescriptor y.desc).map (fun d => d.parameters.length) = some n) (hR : rm.frames + 1 ≤ R.frames ∧ 8 + (maxL + 11) + rm.locals ≤ R.locals)
    (hn : As.length = n) (hsize : ls.size = nL) (hst : st0 = As.reverse ++ .ref b :: rest) (hW : (rest.map fun v => v.category).sum ≤ 8) (hdg : decode cc pc = .ok (.invokevirtual index, 3)) (hf : cells + mc ≤ R.cells ∧ slots + ms ≤ R.slots)
    (hP : va_P D vwCl ws H) (hD : va_D A ws) (hS : va_S A s.heap H locs) (hA : ∀ q, s.heap.size ≤ q → A q) (isC isR : List Nat) (hC : isC.map (fun i => ws[i]?) = wc.map some) (hRr : isR.map (fun i => ws[i]?) = wr.map some) (hnd : va_nd isR = true) (hdis : ∀ i ∈ isR, i ∉ isC)
    (kk : ∀ (x : Addr) (ce : Cell) (H1 : Heap) (locs1 : List Loc), va_P D vwCl (wr ++ w1) H1 → va_D A (wr ++ w1) → va_S A s.heap H1 locs1 → H1[x]? = some ce → ce.vm = .none → s.vm.findClass E = some ce.cls → wX p l e R s m args below meth c H1 locs1 (cells + mc) (slots + ms) Q (F0 m pc ls rest) x) :
    W p l e R s m args below meth c H locs cells slots Q (F0 m pc ls st0) := by
  intro T0 hT X
  have hF := va_free hD hS hA isC hC
  have hcode : (Cond.code y bytes maxL ret).before args s = true := hE.t hc rfl
  have hinst : (Cond.instanceMethod y).before args s = true := hE.t hi rfl
  have hsel : (Cond.selects C y y).before args s = true := hE.t hse rfl
  obtain ⟨cellB, hcB, hoB, hclB⟩ := va_recv hK hPc hcl he
  obtain ⟨mk, methM, hnamed, hmethM, hstM, habM⟩ := Cond.instanceMethod_spec hinst
  obtain ⟨methM', cM, hmethM', -, -, -, -, -, -, hsigM⟩ := Cond.code_spec hnamed hcode
  cases hmethM.symm.trans hmethM'
  obtain ⟨c2, r2, m2, q1, q2, q3, q4, kP, hkP, hkPi⟩ := Cond.selects_spec hsel
  cases hclB.symm.trans q1
  cases (State.methodFound?_of_named hnamed hd.1).symm.trans q2
  cases hnamed.symm.trans q3
  have hselP : selectMethod e.platform s.vm cellB.cls mk = .method mk := by rw [Launch.admits_selectMethod X.admits]; exact q4
  have hlen : As.length = methM.sig.parameters.length := by
    have h2 := hd.2
    rw [hsigM] at h2
    exact hn.trans (Option.some.inj h2).symm
  obtain ⟨vm₁, X₁, hstep₁⟩ := X.invokevirtual hx hown (hE.t hl rfl) hnamed hmethM hstM hkP hkPi hd.1 (a := b) (cell := cellB) (by rw [hT]; exact hcB)
    (fun z h => by rw [h] at hoB; cases hoB) hselP hmethM habM hkP hkPi (g := F0 m pc ls st0) rfl (argsL := As) (rest := rest) hlen hst (by rw [hb]; exact hdg)
  obtain ⟨x, ce, T', t, L, X', hL, e1, hce, hcv, hcl2, ⟨hFr, hB⟩, hsteps⟩ := xBack X₁ (g := F0 m pc ls rest) rfl (hsize.trans hml.symm) (ig := .invokevirtual index) (len := 3) (by rw [hb]; exact hdg) (lv_room hW) (X₁.named hnamed) hM
    (pC_blind _ _ _ _ (pre_1 hE hK hN hPc hDc (T0.setVm vm₁) hT X₁.warmed)) (word_at X₁.warmed (Or.inl rfl) hcode) (word_at X₁.warmed (Or.inl rfl) (hE.t (args := args) hini rfl)) hrc hrs hR hf
  have hz : H.size ≤ t.heap.size := by have := hFr.1; rw [← hT]; exact this
  have hk : ∀ q : Nat, q < H.size → ¬ va_A wc H.size q → t.heap[q]? = H[q]? := fun q h1 h2 => by
    have := hFr.2 q (by show q < T0.heap.size; rw [hT]; exact h1) h2
    rw [this]; show T0.heap[q]? = _; rw [hT]
  obtain ⟨g1, g2⟩ := va_join hP hD isC isR hC hRr hnd hdis hk hF hB.1 hB.2
  obtain ⟨t2, a1, b1⟩ := kk x ce t.heap (locs ++ L) g1 g2 ⟨Nat.le_trans hS.1 hz, fun q h1 h2 => by
      rw [hk q (Nat.lt_of_lt_of_le h1 hS.1) (fun z => h2 (hF q z))]; exact hS.2.1 q h1 h2, fun q hq => by
      rcases List.mem_append.mp hq with h | h
      · exact hS.2.2 q h
      · exact hF _ (hL q h)⟩ hce hcv (fX X₁.warmed hcl2) T' e1 X'
  exact ⟨t2, hstep₁ _ fun acts => by rw [doInvoke_state]; exact hsteps.trans a1, b1⟩
/-- not caught here: it goes on to the caller -/
theorem xOut {E : String} {B : State → State → Prop} {free : Addr → Prop} {ce : Cell} {x : Addr} {mc ms : Nat} (hout : ∀ z ∈ c.exceptionTable.toList, False) (hlocks : meth.locks = false) (hcell : H[x]? = some ce) (hv : ce.vm = .none) (hcl : s.vm.findClass E = some ce.cls)
    (hB : ∀ t : State, t.heap = H → B s t) (hf : ∀ z ∈ locs, free z.base) (hc : cells ≤ mc) (hs : slots ≤ ms) :
    wX p l e R s m args below meth c H locs cells slots (xQ below E B s mc ms free) (F0 m pc ls rest) x := by
  intro T hT X
  obtain ⟨st1, hrun, hend, hW, hsm⟩ := X.leaveThrown x (g := F0 m pc ls rest) rfl rfl rfl (fun z hz => (hout z hz).elim) hlocks
  exact ⟨_, st1, x, ce, hrun, hend, by show T.heap[x]? = some ce; rw [hT]; exact hcell, hv, hcl, hW, ⟨locs, hsm.mono hc hs, hf⟩, hB _ hT⟩
/-- the walk seen from here: as if the method were called now, in this heap, with what room is left -/
theorem stHere {T : State} (X : Stand p l e R s m args below meth c T locs cells slots) {R' : Room} (hf : R'.frames ≤ R.frames) (hl : R'.locals ≤ R.locals) (hc : cells + R'.cells ≤ R.cells) (hs : slots + R'.slots ≤ R.slots) :
    Stand p l e R' ((T.setVm s.vm).setFrames (.invoking m args :: below)) m args below meth c T [] 0 0 := by
  have htop : (T.setVm s.vm).topJava?.isSome := X.here.top
  obtain ⟨g₀, hg0⟩ := Option.isSome_iff_exists.mp htop
  obtain ⟨r, hr⟩ := State.topJava?_eq_some.mp hg0
  have hF : ((T.setVm s.vm).setFrames (.invoking m args :: below)).frames = .invoking m args :: below := State.frames_setFrames _ (State.cur_lt_of_top htop)
  have hme : e.platform.stackLimits ((T.setVm s.vm).setFrames (.invoking m args :: below)).me = e.platform.stackLimits s.me := by rw [State.stackLimits_setFrames]; exact X.limits
  have hby : ((T.setVm s.vm).setFrames (.invoking m args :: below)).me.stackBytes = s.me.stackBytes := by rw [State.stackBytes_setFrames]; exact X.bytes
  refine ⟨X.admits, X.cas, X.clock, hF, ?_, X.hears, X.method, X.code, X.here, X.tail, X.warmed, X.limits.trans hme.symm, X.bytes.trans hby.symm, ?_⟩
  · have h := X.room
    have hU : ((T.setVm s.vm).setFrames (.invoking m args :: below)).localsInUse = s.localsInUse := by
      rw [State.localsInUse_invoking hF (meth := meth) (c := c) X.method X.code, State.localsInUse_invoking X.frames X.method X.code]
    simp only [State.hasRoom, Bool.and_eq_true, decide_eq_true_eq] at h ⊢
    obtain ⟨⟨⟨⟨h1, h2, h3, h4, h5, h6⟩, h7⟩, h8⟩, h9⟩ := h
    rw [X.frames, List.length_cons] at h2 h3
    have q1 := X.heapSize
    have q2 := X.used
    simp only [hF, hU, List.length_cons, hme, hby]
    refine ⟨⟨⟨⟨by omega, by omega, by omega, by omega, by omega, h6⟩, ?_⟩, ?_⟩, X.book⟩
    · show T.heap.size + R'.cells ≤ e.platform.maxCells
      omega
    · show T.slotsUsed + R'.slots ≤ e.platform.maxSlots
      omega
  · have hnil : ((T.heap.toList.drop T.heap.size).map (·.slots.size)).sum = 0 := by rw [List.drop_eq_nil_of_le (Nat.le_of_eq Array.length_toList)]; rfl
    refine ⟨?_, Nat.le_refl _, Nat.le_refl _, ?_, ?_, fun a c9 h9 => ⟨c9, h9, rfl, rfl, fun _ _ => rfl⟩⟩
    · obtain ⟨t, ht, -⟩ := State.frames_cons hr
      show T.setVm s.vm = { ((T.setVm s.vm).setFrames (.invoking m args :: below)).setFrames (T.setVm s.vm).frames with heap := T.heap, slotsUsed := T.slotsUsed }
      rw [State.setFrames_setFrames, State.setFrames_self ht]
      rfl
    · show T.slotsUsed = T.slotsUsed + ((T.heap.toList.drop T.heap.size).map (·.slots.size)).sum
      rw [hnil]; rfl
    · show ((T.heap.toList.drop T.heap.size).map (·.slots.size)).sum ≤ 0
      rw [hnil]; exact Nat.le_refl _
/-- what was there and is not among the places written is there still -/
theorem stOld {U : State} {k n : Nat} (h : s.sameButNew ({ U with vm := s.vm } : State) [] k n) : s.heap.size ≤ U.heap.size ∧ ∀ q : Nat, q < s.heap.size → U.heap[q]? = s.heap[q]? := by
  obtain ⟨-, h2, -, -, -, h6⟩ := h
  refine ⟨h2, fun q hq => ?_⟩
  obtain ⟨c9, e1, e2, e3, e4⟩ := h6 q _ (Array.getElem?_eq_getElem hq)
  have hs : c9.slots = (s.heap[q]).slots := Array.ext_getElem? fun i => e4 i (fun hm => nomatch hm)
  have h9 : c9 = s.heap[q] := by
    rw [hs] at e2
    exact e2
  have e5 : U.heap[q]? = some c9 := e1
  rw [e5, h9, Array.getElem?_eq_getElem hq]
/-- throw new E(): new; dup; invokespecial; athrow -/
theorem xNew {E : String} {B : State → State → Prop} {free : Addr → Prop} {mc ms : Nat} (hx : p.tables.exec = Jvm.exec) (hb : c.code = cc) (htr : l.stackTraces = false) {own : String} {names : List String} {ik ic : Nat}
    (hown : s.vm.findClass own = some m.cls) (hcls : Bundle.fit E = true) (hnames : ∀ n ∈ names, Bundle.fit n = true) (hE : eV s) (hk : Cond.classLink own ik E ∈ aW) (hini : Cond.initialized E ∈ aW)
    (hat : ∀ U : State, eV U → ∀ w ∈ Bundle.ownAtoms0 own ic E names, w.before args U = true) (hN : sK s.heap H) (hsize : ls.size = c.maxLocals)
    (d0 : decode cc pc = .ok (.new ik, 3)) (d3 : decode cc (pc + 3) = .ok (.dup, 1)) (d4 : decode cc (pc + 4) = .ok (.invokespecial ic, 3)) (d7 : decode cc (pc + 7) = .ok (.athrow, 1)) (hout : ∀ z ∈ c.exceptionTable.toList, False)
    (hRf : names.length + 3 < R.frames) (hRl : (rest.map fun v => v.category).sum + (13 * (names.length + 1) + 42) ≤ R.locals) (hRc : cells + 1 ≤ R.cells) (hRs : slots + 6 ≤ R.slots) (hlocks : meth.locks = false)
    (hB : ∀ t : State, H.size ≤ t.heap.size → (∀ q : Nat, q < H.size → t.heap[q]? = H[q]?) → B s t) (hf : ∀ z ∈ locs, free z.base) (hc : cells + 1 ≤ mc) (hs : slots + 6 ≤ ms) :
    W p l e R s m args below meth c H locs cells slots (xQ below E B s mc ms free) (F0 m pc ls rest) := by
  intro T hT X
  have htr' : e.platform.stackTraces = false := (show e.platform.stackTraces = l.stackTraces by rw [X.admits.platform]).trans htr
  have Y := stHere X (R' := { frames := R.frames, locals := R.locals, cells := 1, slots := 6 }) (Nat.le_refl _) (Nat.le_refl _) hRc hRs
  obtain ⟨u, hu⟩ : ∃ z, z = (T.setVm s.vm).setFrames (.invoking m args :: below) := ⟨_, rfl⟩
  rw [← hu] at Y
  have hvm : u.vm = s.vm := by rw [hu]; rfl
  have hhp : u.heap = H := by rw [hu]; exact hT
  have hW0 : s.WarmedH u.vm := by rw [hvm]; exact State.WarmedH.refl s
  have hEu : eV u := hE.go hW0 (by rw [hhp]; exact hN)
  have hown' : u.vm.findClass own = some m.cls := by rw [hvm]; exact hown
  obtain ⟨vm₁, cX, kX, hfX, hkX, -, -, X₁, st1⟩ := Y.newCold hx (own := own) (C := E) (index := ik) (n := 6) hown' (hEu.t hk rfl) (hat u hEu _ (by simp [Bundle.ownAtoms0])) (hEu.t hini rfl)
    (g := F0 m pc ls rest) rfl (by rw [hb]; exact d0) (Nat.le_refl _) (Nat.le_refl _)
  generalize hT1 : (T.setVm vm₁).pushCell { cls := cX, slots := kX.instanceTypes.map defaultValue, vm := .none } = T1 at X₁ st1
  have hcat : (Value.ref T.heap.size).category = 1 := rfl
  have hcellA : T1.heap[T.heap.size]? = some (freshCell cX kX) := by rw [← hT1]; exact State.heap_pushCell_size _ _
  have d3' : decode c.code (pc + 3) = .ok (.dup, 1) := by rw [hb]; exact d3
  obtain ⟨U, hsteps, hrun, hend, hW, hsame, ce, hce, hO⟩ := X₁.ctorThrow0 hx htr' (own := own) (cls := E) (names := names) (ic := ic) hown' hcls hnames (hat u hEu) (fun z hz => nomatch hz) hfX hkX hcellA (by rw [hhp, hT]; exact Nat.le_refl _)
    (g := { method := m, pc := pc + 4, locals := ls, stack := .ref T.heap.size :: .ref T.heap.size :: rest, locked := none }) rfl hsize rfl rfl (rest := rest) rfl
    (by rw [hb]; exact d4) (by rw [hb]; exact d7) (fun z hz => (hout z hz).elim) hRf (by simp only [List.map_cons, List.sum_cons, hcat]; omega) hlocks
  obtain ⟨f1, f2⟩ := stOld hsame
  rw [hhp] at f1 f2
  have hcl : s.vm.findClass E = some ce.cls := by
    have h9 := hO.cls
    rw [hvm] at h9
    exact h9
  have hall : s.sameButNew ({ U with vm := s.vm } : State) locs mc ms := by
    subst hu
    obtain ⟨e1, e2⟩ := hsame
    rw [State.setFrames_setFrames] at e1
    have h2 : (T.setVm s.vm).sameButNew ({ U with vm := s.vm } : State) [] (0 + 1) (0 + 6) := ⟨e1, e2⟩
    have h3 := X.same.trans h2
    rw [List.append_nil] at h3
    exact h3.mono hc hs
  refine ⟨U, ?_, T.heap.size, ce, hrun, hend, hce, hO.vm, hcl, State.WarmedH.trans hW0 hW, ⟨locs, hall, hf⟩, hB U f1 f2⟩
  refine st1 _ ?_
  show Steps p.tables e below (T1.setTop { method := m, pc := pc + 3, locals := ls, stack := .ref T.heap.size :: rest, locked := none }) _
  jvm_step X₁.here [X₁.here.top, hx, d3', Value.category]
  exact hsteps
end XR
