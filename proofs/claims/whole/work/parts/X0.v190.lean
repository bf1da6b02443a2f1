/-! THE CLAIM OUT OF ONE WALK OF THE LAW'S BODY. Your part is whole_start (and what it stands on); all else here is the same for every law, but numbers. -/
def R_law : String := "SeriesVaultLaw"
def lw_P (b : Addr) (xs : List Int32) (args : Array Value) (s : State) : Prop := args = #[.ref b] ∧ s.IntsAt b xs ∧ xs.length ≤ 3072 ∧ (Jvm.Cond.and given_1 narrow_1).before args s = true
def lw_Q (_ : Array Value) (s : State) (o : Outcome) (t : State) : Prop := o = .returned (some (.int 1)) ∧ Framed s o t [] 601024 7293034
def lw_Z (below : List Frame) (a : Array Value) (s : State) : State → Prop := fun t => ∃ o, t.status = .running ∧ Ended t below o ∧ lw_Q a s o t
/-- the law's own end, with 1 on the stack, nothing written that was there before, its room as the claim has it -/
theorem lw_ret {p : Program} {l : Launch} {e : Env} {s : State} {m : MethodId} {below : List Frame} {meth : Method} {c : Code} {b : Nat} (hx : p.tables.exec = Jvm.exec) (hb : c.code = code) (hr : meth.sig.returnType = ret) (hlocks : meth.locks = false) {pc : Nat} {H : Heap} {ls : Array Slot} (hdg : decode code pc = .ok (.ireturn, 1)) : W p l e room_1 s m #[Value.ref b] below meth c H [] 601024 7293034 (lw_Z below #[Value.ref b] s) (F0 m pc ls [.int 1]) := by
  intro T hT X
  obtain ⟨fs, hret, hrun, hended, hW, hframe⟩ := X.leave (v := some (.int 1)) (hlocks := hlocks) (fun h => by rw [hr] at h; cases h)
  have hmeth' : T.vm.method? m = some meth := X.method'
  refine ⟨T.setFrames fs, ?_, .returned (some (.int 1)), hrun, hended, rfl, ⟨_, rfl⟩, hW, hframe⟩
  jvm_step X.here [X.here.top, hx, hb, hdg, hmeth', hr, ret, narrow_b1]
  (try refine ⟨rfl, ?_⟩); (try refine ⟨rfl, ?_⟩)
  first | (intro acts; rw [hret _ acts rfl rfl rfl]) | rw [hret _ _ rfl rfl rfl]
  exact Steps.refl _
/-- what holds at the law's entry: the machine, the code, the tables' words (any of lw_tbl by 'hts w (by decide +kernel)'), the script of L ints xs at the cell b, what the Statement gives of the start (any of its parts by flat_of_before) -/
def lw_At (p : Program) (s : State) (m : MethodId) (meth : Method) (c : Code) (b L : Nat) (xs : Nat → Int32) : Prop :=
  p.tables.exec = Jvm.exec ∧ c.code = code ∧ meth.sig.returnType = ret ∧ c.maxLocals = 8 ∧ s.vm.findClass R_law = some m.cls ∧ (∀ w ∈ lw_tbl, w.before #[Value.ref b] s = true) ∧ va_X b L xs s s.heap ∧ b < s.heap.size ∧ meth.locks = false ∧ (Jvm.Cond.and given_1 narrow_1).before #[Value.ref b] s = true
theorem w851 : Cond.laysStatic "java/lang/Throwable" "UNASSIGNED_STACK" "[Ljava/lang/StackTraceElement;" ∈ aW := aw_of (tb_3 (List.mem_of_getElem? (i := 82) rfl)) rfl
theorem w852 : Cond.laysStatic "java/lang/Throwable" "SUPPRESSED_SENTINEL" "Ljava/util/List;" ∈ aW := aw_of (tb_3 (List.mem_of_getElem? (i := 84) rfl)) rfl
theorem w853 : Cond.laysStatic "java/util/ArrayList" "DEFAULTCAPACITY_EMPTY_ELEMENTDATA" "[Ljava/lang/Object;" ∈ aW := aw_of (tb_1 (List.mem_of_getElem? (i := 232) rfl)) rfl
theorem w854 : Cond.instantiable "SeriesVault" 18 ∈ aW := aw_of (tb_1 (List.mem_of_getElem? (i := 39) rfl)) rfl
theorem w855 : Cond.instantiable "SeriesVaultModel" 79 ∈ aW := aw_of (tb_8 (List.mem_of_getElem? (i := 165) rfl)) rfl
theorem cw_args {w : Cond} {a : Array Value} {s : State} (hc : cw_b w = true) (h : w.before a s = true) : w.before #[] s = true := by
  cases w <;> first | exact h | exact va_tabs rfl rfl h | exact absurd hc (by simp [cw_b, goodWord, Cond.onTables, Cond.keeps])
/-- what holds all along the law -/
def lS (p : Program) (l : Launch) (s : State) (m : MethodId) (meth : Method) (c : Code) (b L : Nat) (xs : Nat → Int32) (D : va_G) (dA : Nat → ClassId) (e0 : Nat) (A : Nat → Prop) : Prop :=
  p.tables.exec = Jvm.exec ∧ c.code = code ∧ meth.sig.returnType = ret ∧ c.maxLocals = 8 ∧ s.vm.findClass "SeriesVaultLaw" = some m.cls ∧ meth.locks = false ∧ eV s ∧ va_K D vwCl (arT dA) s ∧ (∀ q : Nat, s.heap.size ≤ q → A q) ∧ (∀ (H : Heap) (L : List Loc), va_S A s.heap H L → sK s.heap H) ∧ zZ e0 A s s.heap ∧ zT e0 A s s.heap ∧ va_X b L xs s s.heap ∧ b < s.heap.size ∧ ¬ A b ∧ (∀ q : Nat, A q → s.heap.size ≤ q) ∧ l.stackTraces = false
theorem in_cl {s : State} (hE : eV s) : ∀ k : Nat, ∃ z : ClassId × (Nat → Nat), ∀ q : vw_C, vwCl[k]? = some q → u_Kn s q.1 q.2.1 q.2.2 z.1 z.2 := by
  intro k
  match k with
  | 0 => obtain ⟨a1, a2, h⟩ := u_known (ws := aW) (args := #[]) hE.1 layV (hE.1 _ w854); exact ⟨(a1, a2), fun q hq => by obtain rfl : (("SeriesVault", TV, 18) : vw_C) = q := Option.some.inj hq; exact h⟩
  | 1 => obtain ⟨a1, a2, h⟩ := u_known (ws := aW) (args := #[]) hE.1 layJ (hE.1 _ w817); exact ⟨(a1, a2), fun q hq => by obtain rfl : (("SeriesVault$Journal", TJ, 13) : vw_C) = q := Option.some.inj hq; exact h⟩
  | 2 => obtain ⟨a1, a2, h⟩ := u_known (ws := aW) (args := #[]) hE.1 layP (hE.1 _ w822); exact ⟨(a1, a2), fun q hq => by obtain rfl : (("SeriesVault$Points", TP, 4) : vw_C) = q := Option.some.inj hq; exact h⟩
  | 3 => obtain ⟨a1, a2, h⟩ := u_known (ws := aW) (args := #[]) hE.1 layH (hE.1 _ w828); exact ⟨(a1, a2), fun q hq => by obtain rfl : (("SeriesVault$Shelf", TH, 11) : vw_C) = q := Option.some.inj hq; exact h⟩
  | 4 => obtain ⟨a1, a2, h⟩ := u_known (ws := aW) (args := #[]) hE.1 layR (hE.1 _ w835); exact ⟨(a1, a2), fun q hq => by obtain rfl : (("SeriesVault$SeriesReader", TR, 6) : vw_C) = q := Option.some.inj hq; exact h⟩
  | 5 => obtain ⟨a1, a2, h⟩ := u_known (ws := aW) (args := #[]) hE.1 layQ (hE.1 _ w840); exact ⟨(a1, a2), fun q hq => by obtain rfl : (("SeriesVault$Question", TQ, 9) : vw_C) = q := Option.some.inj hq; exact h⟩
  | 6 => obtain ⟨a1, a2, h⟩ := u_known (ws := aW) (args := #[]) hE.1 layL (hE.1 _ w792); exact ⟨(a1, a2), fun q hq => by obtain rfl : (("java/util/ArrayList", TL, 3) : vw_C) = q := Option.some.inj hq; exact h⟩
  | 7 => obtain ⟨a1, a2, h⟩ := u_known (ws := aW) (args := #[]) hE.1 layA (hE.1 _ w845); exact ⟨(a1, a2), fun q hq => by obtain rfl : (("SeriesVault$Answers", TA, 10) : vw_C) = q := Option.some.inj hq; exact h⟩
  | 8 => obtain ⟨a1, a2, h⟩ := u_known (ws := aW) (args := #[]) hE.1 layT (hE.1 _ w806); exact ⟨(a1, a2), fun q hq => by obtain rfl : (("SeriesVault$Table", TT, 7) : vw_C) = q := Option.some.inj hq; exact h⟩
  | 9 => obtain ⟨a1, a2, h⟩ := u_known (ws := aW) (args := #[]) hE.1 layM (hE.1 _ w855); exact ⟨(a1, a2), fun q hq => by obtain rfl : (("SeriesVaultModel", TM, 79) : vw_C) = q := Option.some.inj hq; exact h⟩
  | 10 => obtain ⟨a1, a2, h⟩ := u_known (ws := aW) (args := #[]) hE.1 layW (hE.1 _ w856); exact ⟨(a1, a2), fun q hq => by obtain rfl : (("SeriesVault$Word", TW, 1) : vw_C) = q := Option.some.inj hq; exact h⟩
  | 11 => obtain ⟨a1, a2, h⟩ := u_known (ws := aW) (args := #[]) hE.1 layS (hE.1 _ w857); exact ⟨(a1, a2), fun q hq => by obtain rfl : (("SeriesVault$Series", TS, 4) : vw_C) = q := Option.some.inj hq; exact h⟩
  | 12 => obtain ⟨a1, a2, h⟩ := u_known (ws := aW) (args := #[]) hE.1 layC (hE.1 _ w858); exact ⟨(a1, a2), fun q hq => by obtain rfl : (("SeriesVault$Parcel", TC, 8) : vw_C) = q := Option.some.inj hq; exact h⟩
  | 13 => obtain ⟨a1, a2, h⟩ := u_known (ws := aW) (args := #[]) hE.1 layE (hE.1 _ w859); exact ⟨(a1, a2), fun q hq => by obtain rfl : (("SeriesVault$Step", TE, 8) : vw_C) = q := Option.some.inj hq; exact h⟩
  | n + 14 => exact ⟨(default, fun _ => 0), fun q hq => nomatch (show (none : Option vw_C) = some q from hq)⟩
abbrev arTy : List FieldType := [.byte, .int, .long, .boolean, .object "SeriesVault$Parcel", .object "SeriesVault$Series", .object "SeriesVault$Word", .object "java/lang/Object"]
theorem in_ar {s : State} (hE : eV s) : ∀ k : Nat, ∃ z : ClassId, ∀ q : FieldType, arTy[k]? = some q → ArrOfT s z q ∧ va_RA s z q := by
  intro k
  match k with
  | 0 => obtain ⟨cA, kA, comp, h1, h2, h3⟩ := Cond.arrayClass_spec (hE.1 _ w496); exact ⟨cA, fun q hq => by obtain rfl : (.byte : FieldType) = q := Option.some.inj hq; exact ⟨fun N z => ⟨(fun k h => by cases h), kA, h2, comp, h3⟩, h1⟩⟩
  | 1 => obtain ⟨cA, kA, comp, h1, h2, h3⟩ := Cond.arrayClass_spec (hE.1 _ w184); exact ⟨cA, fun q hq => by obtain rfl : (.int : FieldType) = q := Option.some.inj hq; exact ⟨fun N z => ⟨(fun k h => by cases h), kA, h2, comp, h3⟩, h1⟩⟩
  | 2 => obtain ⟨cA, kA, comp, h1, h2, h3⟩ := Cond.arrayClass_spec (hE.1 _ w186); exact ⟨cA, fun q hq => by obtain rfl : (.long : FieldType) = q := Option.some.inj hq; exact ⟨fun N z => ⟨(fun k h => by cases h), kA, h2, comp, h3⟩, h1⟩⟩
  | 3 => obtain ⟨cA, kA, comp, h1, h2, h3⟩ := Cond.arrayClass_spec (hE.1 _ w525); exact ⟨cA, fun q hq => by obtain rfl : (.boolean : FieldType) = q := Option.some.inj hq; exact ⟨fun N z => ⟨(fun k h => by cases h), kA, h2, comp, h3⟩, h1⟩⟩
  | 4 => obtain ⟨comp, cA, kA, h1, h2, h3, h4, h5⟩ := Cond.arrayOver_spec (hE.1 _ w198); exact ⟨cA, fun q hq => by obtain rfl : (.object "SeriesVault$Parcel" : FieldType) = q := Option.some.inj hq; exact ⟨fun N z => ⟨(fun k h => by cases h), kA, h3, comp, h4⟩, kA, comp, h3, h4, h1, h5⟩⟩
  | 5 => obtain ⟨comp, cA, kA, h1, h2, h3, h4, h5⟩ := Cond.arrayOver_spec (hE.1 _ w786); exact ⟨cA, fun q hq => by obtain rfl : (.object "SeriesVault$Series" : FieldType) = q := Option.some.inj hq; exact ⟨fun N z => ⟨(fun k h => by cases h), kA, h3, comp, h4⟩, kA, comp, h3, h4, h1, h5⟩⟩
  | 6 => obtain ⟨comp, cA, kA, h1, h2, h3, h4, h5⟩ := Cond.arrayOver_spec (hE.1 _ w783); exact ⟨cA, fun q hq => by obtain rfl : (.object "SeriesVault$Word" : FieldType) = q := Option.some.inj hq; exact ⟨fun N z => ⟨(fun k h => by cases h), kA, h3, comp, h4⟩, kA, comp, h3, h4, h1, h5⟩⟩
  | 7 => obtain ⟨comp, cA, kA, h1, h2, h3, h4, h5⟩ := Cond.arrayOver_spec (hE.1 _ w767); exact ⟨cA, fun q hq => by obtain rfl : (.object "java/lang/Object" : FieldType) = q := Option.some.inj hq; exact ⟨fun N z => ⟨(fun k h => by cases h), kA, h3, comp, h4⟩, kA, comp, h3, h4, h1, h5⟩⟩
  | n + 8 => exact ⟨default, fun q hq => nomatch (show (none : Option FieldType) = some q from hq)⟩
theorem in_ar2 {s : State} {dA : Nat → ClassId} (h : ∀ (k : Nat) (q : FieldType), arTy[k]? = some q → ArrOfT s (dA k) q ∧ va_RA s (dA k) q) : ∀ (k : Nat) (q : ClassId × FieldType), (arT dA)[k]? = some q → ArrOfT s q.1 q.2 ∧ va_RA s q.1 q.2 := by
  intro k q hq
  match k, hq with
  | 0 , hq => obtain rfl : ((dA 0, .byte) : ClassId × FieldType) = q := Option.some.inj hq; exact h 0 _ rfl
  | 1 , hq => obtain rfl : ((dA 1, .int) : ClassId × FieldType) = q := Option.some.inj hq; exact h 1 _ rfl
  | 2 , hq => obtain rfl : ((dA 2, .long) : ClassId × FieldType) = q := Option.some.inj hq; exact h 2 _ rfl
  | 3 , hq => obtain rfl : ((dA 3, .boolean) : ClassId × FieldType) = q := Option.some.inj hq; exact h 3 _ rfl
  | 4 , hq => obtain rfl : ((dA 4, .object "SeriesVault$Parcel") : ClassId × FieldType) = q := Option.some.inj hq; exact h 4 _ rfl
  | 5 , hq => obtain rfl : ((dA 5, .object "SeriesVault$Series") : ClassId × FieldType) = q := Option.some.inj hq; exact h 5 _ rfl
  | 6 , hq => obtain rfl : ((dA 6, .object "SeriesVault$Word") : ClassId × FieldType) = q := Option.some.inj hq; exact h 6 _ rfl
  | 7 , hq => obtain rfl : ((dA 7, .object "java/lang/Object") : ClassId × FieldType) = q := Option.some.inj hq; exact h 7 _ rfl
  | n + 8, hq => exact nomatch (show (none : Option (ClassId × FieldType)) = some q from hq)
theorem law_in {p : Program} {s : State} {m : MethodId} {meth : Method} {c : Code} (l : Launch) (hfl : l.flags = flags0) {b L : Nat} {xs : Nat → Int32} (C0 : lw_At p s m meth c b L xs) : ∃ (D : va_G) (dA : Nat → ClassId) (e0 : Nat), lS p l s m meth c b L xs D dA e0 (fun q => s.heap.size ≤ q) := by
  obtain ⟨hx, hb, hr, hml, hown, hts, hX, hbl, hlk, hgv⟩ := C0
  have hs := flat_of_before _ hgv
  have hW : ∀ w ∈ aW, w.before #[] s = true := fun w hw => cw_args (List.mem_filter.mp hw).2 (hts w (List.mem_filter.mp hw).1)
  have hzU : (Cond.isRef (.static "java/lang/Throwable" "UNASSIGNED_STACK" "[Ljava/lang/StackTraceElement;")).before #[Value.ref b] s = true := hs _ (by decide +kernel)
  have hzS : (Cond.isRef (.static "java/lang/Throwable" "SUPPRESSED_SENTINEL" "Ljava/util/List;")).before #[Value.ref b] s = true := hs _ (by decide +kernel)
  have hNc : ∀ q ∈ ncL, va_Nc q.1 q.2 s := List.forall_mem_cons.mpr ⟨va_Nc.of (hs _ (by decide +kernel)), List.forall_mem_cons.mpr ⟨va_Nc.of (hs _ (by decide +kernel)), List.forall_mem_cons.mpr ⟨va_Nc.of (hs _ (by decide +kernel)), List.forall_mem_cons.mpr ⟨va_Nc.of (hs _ (by decide +kernel)), List.forall_mem_cons.mpr ⟨va_Nc.of (hs _ (by decide +kernel)), List.forall_mem_cons.mpr ⟨va_Nc.of (hs _ (by decide +kernel)), fun _ h => absurd h List.not_mem_nil⟩⟩⟩⟩⟩⟩
  have hE : eV s := ⟨hW, hW _ w851, hW _ w852, hzU, hzS, hNc⟩
  have harr : (Cond.arrayOf (Term.static "java/util/ArrayList" "DEFAULTCAPACITY_EMPTY_ELEMENTDATA" "[Ljava/lang/Object;") (.object "java/lang/Object")).before #[Value.ref b] s = true := hs _ (by decide +kernel)
  have hlen : (Cond.eq (.length (Term.static "java/util/ArrayList" "DEFAULTCAPACITY_EMPTY_ELEMENTDATA" "[Ljava/lang/Object;")) (.int 0)).before #[Value.ref b] s = true := hs _ (by decide +kernel)
  have hA : ∀ a : Nat, a < s.heap.size → ¬ (fun q : Nat => s.heap.size ≤ q) a := fun a h => Nat.not_le.mpr h
  obtain ⟨e0, hv, hT⟩ := va_Tof (N := 0) (f := fun _ => Value.null) (A := fun q => s.heap.size ≤ q) (by decide) harr (va_eqt hlen) (fun j hj => absurd hj (Nat.not_lt_zero j)) hA
  have hZ : zZ e0 (fun q => s.heap.size ≤ q) s s.heap := va_Zref (args := #[Value.ref b]) (ho_1 (hW _ w853)) (hE.t w680 rfl) hv hA
  obtain ⟨f, hf⟩ := Classical.skolem.mp (in_cl hE)
  obtain ⟨dA, hd⟩ := Classical.skolem.mp (in_ar hE)
  have hK : va_K (fun k => (f k).1, fun k => (f k).2) vwCl (arT dA) s := ⟨fun k q hq => hf k q hq, in_ar2 hd⟩
  refine ⟨_, dA, e0, hx, hb, hr, hml, hown, hlk, hE, hK, fun q h => h, ?_, hZ, hT, hX, hbl, Nat.not_le.mpr hbl, fun q h => h, ?_⟩
  · intro H L1 hS q cell hc hst
    have h1 := (Array.getElem?_eq_some_iff.mp hc).1
    rw [hS.2.1 q h1 (Nat.not_le.mpr h1)]
    exact hc
  · show l.stackTraces = false
    unfold Launch.stackTraces
    rw [hfl]
    decide
theorem lw_fin {p : Program} {l : Launch} {e : Env} {s : State} {m : MethodId} {below : List Frame} {meth : Method} {c : Code} {b L : Nat} {xs : Nat → Int32} {D : va_G} {dA : Nat → ClassId} {e0 : Nat} {A : Nat → Prop} {H : Heap} {locs : List Loc} {cells slots pc : Nat} {ls : Array Slot} (hC : lS p l s m meth c b L xs D dA e0 A) (hS : va_S A s.heap H locs) (hc : cells ≤ 601024) (hs : slots ≤ 7293034) (hdg : decode code pc = .ok (.ireturn, 1)) :
    W p l e room_1 s m #[Value.ref b] below meth c H locs cells slots (lw_Z below #[Value.ref b] s) (F0 m pc ls [.int 1]) :=
  va_forget (fun q hq => hC.2.2.2.2.2.2.2.2.2.2.2.2.2.2.2.1 _ (hS.2.2 q hq)) (W.widen hc hs (lw_ret hC.1 hC.2.1 hC.2.2.1 hC.2.2.2.2.2.1 hdg))
/-! The law's script. -/
section SL
variable {p : Program} {l : Launch} {e : Env} {R : Room} {s : State} {m : MethodId} {args : Array Value} {below : List Frame} {meth : Method} {c : Code} {H H0 : Heap} {locs : List Loc} {cells slots : Nat} {Q : State → Prop} {A : Nat → Prop} {cc : ByteArray} {pc : Nat} {ls : Array Slot} {rest : List Value}
theorem sldN (hexec : p.tables.exec = Jvm.exec) (hb : c.code = cc) {b L : Nat} {xs : Nat → Int32} (hX : va_X b L xs s H0) (hbl : b < H0.size) (hbA : ¬ A b) (hS : va_S A H0 H locs) {a : Nat} (ha : a < L) (hL : L ≤ 65536) (hdg : decode cc pc = .ok (.iaload, 1))
    (kk : W p l e R s m args below meth c H locs cells slots Q (F0 m (pc + 1) ls (.int (xs a) :: rest))) : W p l e R s m args below meth c H locs cells slots Q (F0 m pc ls (.int (nI a) :: .ref b :: rest)) := by
  have e1 : (nI a).toNatClampNeg = a := i2n_of (by omega)
  refine va_sld hexec hb hX hbl hbA hS (i := nI a) (fun q => ?_) hdg (by rw [e1]; exact kk)
  rcases q with q | q
  · exact nI_nn (by omega) q
  · rw [e1] at q
    omega
variable {D : va_G} {dA : Nat → ClassId} {st0 : List Value} {wc : va_W} {e0 mi : Nat} {kA vA : Nat → Nat} {fm : Nat}
theorem rnWs {y : MethodName} {bytes : ByteArray} {maxL mc ms n index nL : Nat} {ret : Option FieldType} {hh : List (Nat × Nat × Nat × Nat)} {rm : Room} {Qc : Array Value → State → Outcome → State → Prop} {free : Addr → Prop} {own : String} {As : List Value}
    (hx : p.tables.exec = Jvm.exec) (hb : c.code = cc) (hml : c.maxLocals = nL) (hown : s.vm.findClass own = some m.cls) (hE : eV s) (hK : va_K D vwCl (arT dA) s) (hZ : zZ e0 A s s.heap) (hT0 : zT e0 A s s.heap) (hMi : va_Mi "[Ljava/lang/Object;" mi s) (hQ : qS kA vA fm A s s.heap) (hS : va_S A s.heap H locs) (hN : sK s.heap H) (hP : va_P D vwCl wc H) (hD : va_D A wc)
    (hM : Met l y [Cond.codeWith y bytes maxL ret hh] rm (pCs D dA e0 mi kA vA fm As wc H.size) Qc mc ms free)
    (hc : Cond.codeWith y bytes maxL ret hh ∈ aW) (hl : Cond.methodLink own index y ∈ aW) (hstat : Cond.static y ∈ aW) (hini : Cond.initialized y.cls ∈ aW) (hrc : rm.cells = mc) (hrs : rm.slots = ms)
    (hd : (y.cls ≠ "java/lang/invoke/MethodHandle" ∧ y.cls ≠ "java/lang/invoke/VarHandle") ∧ (parseMethodDescriptor y.desc).map (fun d => d.parameters.length) = some n) (hR : rm.frames + 1 ≤ R.frames ∧ 8 + (maxL + 11) + rm.locals ≤ R.locals)
    (hn : As.length = n) (hsize : ls.size = nL) (hst : st0 = As.reverse ++ rest) (hW : (rest.map fun v => v.category).sum ≤ 8) (hdg : decode cc pc = .ok (.invokestatic index, 3)) (hf : cells + mc ≤ R.cells ∧ slots + ms ≤ R.slots) :
    va_Run p l e R s m args below meth c H locs cells slots mc ms (F0 m pc ls st0) rest (Qc As.toArray) free := by
  have hcode : (Cond.codeWith y bytes maxL ret hh).before args s = true := hE.t hc rfl
  have hK9 : Back l R p e below s args y 3 8 (PreOf R mc ms (pCs D dA e0 mi kA vA fm As wc H.size)) (PostOf Qc mc ms free) := va_backW (hh := hh) (bytes := bytes) (maxL := maxL) (ret := ret) hM pCs_blind hrc hrs hR.1 hR.2
    (fun w hw a' U hW9 => by
      have hw' : w = Cond.codeWith y bytes maxL ret hh := by simpa using hw
      subst hw'
      exact word_at (args := #[]) hW9 (Or.inl rfl) (hE.1 _ hc)) List.mem_cons_self (fun a' U hW9 => word_at hW9 (Or.inl rfl) (hE.1 _ hini))
  intro T hT X
  obtain ⟨mk, methM, cM, hnamed, hmethM, -, -, -, -, -, -, hsigM⟩ := Cond.codeWith_spec hcode
  have hstatic : methM.isStatic = true := Cond.static_spec hnamed hmethM (hE.t (args := args) hstat rfl)
  obtain ⟨kP, hkP, -⟩ := className_of_methodNamed hnamed
  have hinitP : kP.init = .initialized := Cond.initialized_spec (findClass_of_methodNamed hnamed) hkP (hE.t (args := args) hini rfl)
  have hlen : As.length = methM.sig.parameters.length := by
    have h2 := hd.2
    rw [hsigM] at h2
    exact hn.trans (Option.some.inj h2).symm
  obtain ⟨vm₁, X₁, hstep₁⟩ := X.invokestatic hx hown (hE.t hl rfl) hnamed hmethM hstatic hkP hinitP hd.1 (g := F0 m pc ls st0) rfl (argsL := As) (rest := rest) hlen hst (by rw [hb]; exact hdg)
  obtain ⟨v, ⟨U', l2, c2, s2⟩, X', ⟨g', mk', t, L, e1, e2, hq, h1, hL, h2, h3⟩, hsteps⟩ := hK9 m meth c ⟨T.setVm vm₁, locs, cells, slots⟩ (F0 m pc ls rest) (.invokestatic index) mk As.toArray X₁ rfl (hsize.trans hml.symm) (by rw [hb]; exact hdg) (lv_room hW) (X₁.named hnamed) ⟨hf.1, hf.2, pre_s hE hK hZ hT0 hMi hQ hS hN hP hD (T.setVm vm₁) hT X₁.warmed⟩
  dsimp only [Pt.U, Pt.locs, Pt.cells, Pt.slots] at X' e1 e2 h1 h2 h3 hsteps
  subst h1; subst h2; subst h3
  exact ⟨v, (T.setVm vm₁).calling g' mk' As.toArray, t, U', L, hT, X', hL, e1, e2, hq, fun target h => hstep₁ _ fun acts => by rw [doInvoke_state]; exact hsteps.trans h⟩
end SL
