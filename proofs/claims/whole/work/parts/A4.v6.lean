theorem frP {D : va_G} {cl : List vw_C} {ws : va_W} {q : Nat × va_E} {H : Heap} (h : va_P D cl (ws ++ [q]) H) : va_P D cl (q :: ws) H := by
  intro k z hk
  have hm := List.mem_of_getElem? hk
  have h2 : z ∈ ws ++ [q] := by
    rcases List.mem_cons.mp hm with e | e
    · rw [e]
      exact List.mem_append_right _ (List.mem_singleton.mpr rfl)
    · exact List.mem_append_left _ e
  obtain ⟨i, hi⟩ := List.getElem?_of_mem h2
  exact h i z hi
theorem frD {A : Nat → Prop} {ws : va_W} {q : Nat × va_E} (h : va_D A (ws ++ [q])) : va_D A (q :: ws) := by
  have key : ∀ (k : Nat) (z : Nat × va_E), (q :: ws)[k]? = some z → (ws ++ [q])[if k = 0 then ws.length else k - 1]? = some z := by
    intro k z hk
    cases k with
    | zero =>
      rw [if_pos rfl, List.getElem?_append_right (Nat.le_refl _), Nat.sub_self]
      exact hk
    | succ k =>
      rw [if_neg (Nat.succ_ne_zero k)]
      have hk : ws[k]? = some z := hk
      rw [show k + 1 - 1 = k from rfl, List.getElem?_append_left (List.getElem?_eq_some_iff.mp hk).1]
      exact hk
  refine ⟨fun i j a b hi hj e => ?_, fun k z hk => h.2 _ z (key k z hk)⟩
  have e1 := h.1 _ _ a b (key i a hi) (key j b hj) e
  have l1 : ∀ k z, (q :: ws)[k]? = some z → k < ws.length + 1 := fun k z hz => by
    have := (List.getElem?_eq_some_iff.mp hz).1
    simpa using this
  have b1 := l1 i a hi
  have b2 := l1 j b hj
  split at e1 <;> split at e1 <;> omega
/-- the first cell put into the place of another -/
theorem swP {D : va_G} {cl : List vw_C} {ws : va_W} {q : Nat × va_E} {H : Heap} (i : Nat) (h : va_P D cl (q :: ws) H) : va_P D cl (ws.set i q) H := by
  intro k z hk
  rw [List.getElem?_set] at hk
  by_cases e : i = k
  · rw [if_pos e] at hk
    split at hk
    · exact h 0 z hk
    · cases hk
  · rw [if_neg e] at hk
    exact h (k + 1) z hk
theorem swD {A : Nat → Prop} {ws : va_W} {q : Nat × va_E} (i : Nat) (h : va_D A (q :: ws)) : va_D A (ws.set i q) := by
  have key : ∀ (k : Nat) (z : Nat × va_E), (ws.set i q)[k]? = some z → (q :: ws)[if k = i then 0 else k + 1]? = some z := by
    intro k z hk
    rw [List.getElem?_set] at hk
    by_cases e : i = k
    · rw [if_pos e] at hk
      rw [if_pos e.symm]
      split at hk
      · exact hk
      · cases hk
    · rw [if_neg e] at hk
      rw [if_neg (fun z => e z.symm)]
      exact hk
  refine ⟨fun a b y z ha hb e => ?_, fun k z hk => h.2 _ z (key k z hk)⟩
  have e1 := h.1 _ _ y z (key a y ha) (key b z hb) e
  split at e1 <;> split at e1 <;> omega
section FR
variable {p : Program} {l : Launch} {e : Env} {R : Room} {s : State} {m : MethodId} {args : Array Value} {below : List Frame} {meth : Method} {c : Code} {H : Heap} {locs : List Loc} {cells slots : Nat} {Q : State → Prop}
variable {D : va_G} {dA : Nat → ClassId} {A : Nat → Prop} {cc : ByteArray} {pc : Nat} {ls : Array Slot} {rest st0 : List Value} {ws : va_W} {a : Nat}
theorem jfR {mc ms : Nat} {S : Type} {post : S → Prop} {w1 : S → Nat → va_W} {a : Array Value} (hr : va_Run p l e R s m args below meth c H locs cells slots mc ms (F0 m pc ls st0) rest (va_Qr post (fun u ra t => bW D (va_A ws H.size) (w1 u ra) t) (va_A ws H.size) a) (va_A ws H.size))
    (hP : va_P D vwCl ws H) (hD : va_D A ws) (hS : va_S A s.heap H locs) (hA : ∀ q, s.heap.size ≤ q → A q)
    (kk : ∀ (u : S) (ra : Nat) (H1 : Heap) (locs1 : List Loc), post u → va_P D vwCl (w1 u ra) H1 → va_D A (w1 u ra) → va_S A s.heap H1 locs1 → W p l e R s m args below meth c H1 locs1 (cells + mc) (slots + ms) Q (F0 m (pc + 3) ls (.ref ra :: rest))) : W p l e R s m args below meth c H locs cells slots Q (F0 m pc ls st0) :=
  jnR hr hP hD hS hA (List.range ws.length) [] (wr := []) (rg_map ws) rfl rfl (fun _ h => nomatch h) kk
theorem rfR {S : Type} {post : S → Prop} {w1 : S → Nat → va_W} {mc ms : Nat} {rt : FieldType} {x : Nat} (hx : p.tables.exec = Jvm.exec) (hb : c.code = cc) (hr : meth.sig.returnType = some rt) (hrt : (∃ n, rt = .object n) ∨ ∃ t, rt = .array t) (hlk : meth.locks = false) (hS : va_S A s.heap H locs) (u : S) (hp : post u) (hP : va_P D vwCl (w1 u x) H) (hD : va_D A (w1 u x)) (hc : cells ≤ mc) (hsl : slots ≤ ms) (hdg : decode cc pc = .ok (.areturn, 1)) :
    W p l e R s m args below meth c H locs cells slots (MQ below (va_Qr post (fun u ra t => bW D A (w1 u ra) t) A) args s mc ms A) (F0 m pc ls [.ref x]) :=
  rtR hx hb hr hrt hlk hP hD hS u hp (List.range (w1 u x).length) (fm_range _) (rg_map _) (nd_of List.nodup_range) hc hsl hdg
theorem nnA (hexec : p.tables.exec = Jvm.exec) (hb : c.code = cc) {atype : ArrayType} (hE : eV s) {ty : FieldType} (hty : newarray.typeOf atype = ty) (harr : Cond.arrayClass ty ∈ aW) (hK : va_K D vwCl (arT dA) s) (hP : va_P D vwCl ws H) (hD : va_D A ws) (hS : va_S A s.heap H locs) (hA : ∀ q, s.heap.size ≤ q → A q)
    (t0 : Nat) {cA0 : ClassId} (ht0 : (arT dA)[t0]? = some (cA0, ty)) {N' : Nat} {a0 : vp_A} (ha : ∀ cA : ClassId, vp_cell cA a0 = arrV cA N' (fun _ => defaultValue ty)) (hn : N' < 2 ^ 31) (hbytes : N' * componentBytes ty ≤ 536870912) (hcells : cells + 1 ≤ R.cells) (hslots : slots + N' ≤ R.slots) (hdg : decode cc pc = .ok (.newarray atype, 2))
    (kk : ∀ (q : Nat) (H1 : Heap), va_P D vwCl ((q, .inl (cA0, a0)) :: ws) H1 → va_D A ((q, .inl (cA0, a0)) :: ws) → va_S A s.heap H1 locs → W p l e R s m args below meth c H1 locs (cells + 1) (slots + N') Q (F0 m (pc + 2) ls (.ref q :: rest))) : W p l e R s m args below meth c H locs cells slots Q (F0 m pc ls (.int (nI N') :: rest)) :=
  nwA hexec hb hE hty harr hK hP hD hS hA t0 ht0 ha (nI_pos hn) (nI_clamp hn) hbytes hcells hslots hdg (fun q H1 g1 g2 g3 => kk q H1 (frP g1) (frD g2) g3)
theorem ncpyi (hexec : p.tables.exec = Jvm.exec) (hb : c.code = cc) (hml : c.maxLocals = ls.size) {own : String} {index : Nat} (hown : s.vm.findClass own = some m.cls) (hlink : (Cond.methodLink own index arraycopyName).before args s = true) (hnat : (Cond.native arraycopyName).before args s = true) (hstat : (Cond.static arraycopyName).before args s = true) (hini : (Cond.initialized "java/lang/System").before args s = true)
    (hK : va_K D vwCl (arT dA) s) (hP : va_P D vwCl ws H) (hD : va_D A ws) (hS : va_S A s.heap H locs) (q0 q1 t0 : Nat) {a0 : Nat} {c0 : ClassId} {n0 n1 : Nat} {f g : Nat → Int32} {ty : FieldType} (ha0 : ws[q0]? = some (a0, .inl (c0, n0, .inl f))) (ha1 : ws[q1]? = some (a, .inl (c0, n1, .inl g))) (ht0 : (arT dA)[t0]? = some (c0, ty)) (hprim : refKind ty = false)
    (sp dp n : Nat) (h1 : sp < 2 ^ 31) (h2 : dp < 2 ^ 31) (h3 : n < 2 ^ 31) (h4 : sp + n ≤ n0) (h5 : dp + n ≤ n1) (hfit : ∀ i, i < n → fits ty (.int (f (sp + i))) = true)
    (hframes : 1 ≤ R.frames) (hlocals : (rest.map fun v => v.category).sum + (nativeFrameWords "java/lang/System" "arraycopy" 5 + 11) ≤ R.locals) (hdg : decode cc pc = .ok (.invokestatic index, 3))
    (kk : ∀ (H1 : Heap) (locs1 : List Loc), va_P D vwCl (ws.set q1 (a, .inl (c0, n1, .inl (va_cpy f g sp dp n)))) H1 → va_D A (ws.set q1 (a, .inl (c0, n1, .inl (va_cpy f g sp dp n)))) → va_S A s.heap H1 locs1 → W p l e R s m args below meth c H1 locs1 cells slots Q (F0 m (pc + 3) ls rest)) : W p l e R s m args below meth c H locs cells slots Q (F0 m pc ls (.int (nI n) :: .int (nI dp) :: .ref a :: .int (nI sp) :: .ref a0 :: rest)) := by
  refine va_copyi hexec hb hml hown hlink hnat hstat hini hK hP hD hS q0 q1 t0 t0 ha0 ha1 ht0 ht0 hprim (nI_pos h1) (nI_pos h2) (nI_pos h3) ?_ ?_ ?_ hframes hlocals hdg ?_
  · rw [nI_clamp h1, nI_clamp h3]; exact h4
  · rw [nI_clamp h2, nI_clamp h3]; exact h5
  · rw [nI_clamp h1, nI_clamp h3]; exact hfit
  · rw [nI_clamp h1, nI_clamp h2, nI_clamp h3]; exact kk
theorem ncpyl (hexec : p.tables.exec = Jvm.exec) (hb : c.code = cc) (hml : c.maxLocals = ls.size) {own : String} {index : Nat} (hown : s.vm.findClass own = some m.cls) (hlink : (Cond.methodLink own index arraycopyName).before args s = true) (hnat : (Cond.native arraycopyName).before args s = true) (hstat : (Cond.static arraycopyName).before args s = true) (hini : (Cond.initialized "java/lang/System").before args s = true)
    (hK : va_K D vwCl (arT dA) s) (hP : va_P D vwCl ws H) (hD : va_D A ws) (hS : va_S A s.heap H locs) (q0 q1 t0 : Nat) {a0 : Nat} {c0 : ClassId} {n0 n1 : Nat} {f g : Nat → Int64} {ty : FieldType} (ha0 : ws[q0]? = some (a0, .inl (c0, n0, .inr (.inl f)))) (ha1 : ws[q1]? = some (a, .inl (c0, n1, .inr (.inl g)))) (ht0 : (arT dA)[t0]? = some (c0, ty)) (hprim : refKind ty = false)
    (sp dp n : Nat) (h1 : sp < 2 ^ 31) (h2 : dp < 2 ^ 31) (h3 : n < 2 ^ 31) (h4 : sp + n ≤ n0) (h5 : dp + n ≤ n1) (hfit : ∀ i, i < n → fits ty (.long (f (sp + i))) = true)
    (hframes : 1 ≤ R.frames) (hlocals : (rest.map fun v => v.category).sum + (nativeFrameWords "java/lang/System" "arraycopy" 5 + 11) ≤ R.locals) (hdg : decode cc pc = .ok (.invokestatic index, 3))
    (kk : ∀ (H1 : Heap) (locs1 : List Loc), va_P D vwCl (ws.set q1 (a, .inl (c0, n1, .inr (.inl (va_cpy f g sp dp n))))) H1 → va_D A (ws.set q1 (a, .inl (c0, n1, .inr (.inl (va_cpy f g sp dp n))))) → va_S A s.heap H1 locs1 → W p l e R s m args below meth c H1 locs1 cells slots Q (F0 m (pc + 3) ls rest)) : W p l e R s m args below meth c H locs cells slots Q (F0 m pc ls (.int (nI n) :: .int (nI dp) :: .ref a :: .int (nI sp) :: .ref a0 :: rest)) := by
  refine va_copyl hexec hb hml hown hlink hnat hstat hini hK hP hD hS q0 q1 t0 t0 ha0 ha1 ht0 ht0 hprim (nI_pos h1) (nI_pos h2) (nI_pos h3) ?_ ?_ ?_ hframes hlocals hdg ?_
  · rw [nI_clamp h1, nI_clamp h3]; exact h4
  · rw [nI_clamp h2, nI_clamp h3]; exact h5
  · rw [nI_clamp h1, nI_clamp h3]; exact hfit
  · rw [nI_clamp h1, nI_clamp h2, nI_clamp h3]; exact kk
theorem cpyNI (f g : Nat → Nat) (sp dp n : Nat) : va_cpy (fun k => nI (f k)) (fun k => nI (g k)) sp dp n = fun k => nI (va_cpy f g sp dp n k) := by
  funext k
  unfold va_cpy
  split <;> rfl
end FR
theorem byte_fit {f : Nat → Int32} (h : byteF f) (q : Nat) : fits .byte (.int (f q)) = true := by
  have h1 := byteF_r h q
  show (decide (-128 ≤ f q) && decide (f q ≤ 127)) = true
  have e1 : (-128 : Int32).toInt = -128 := by decide
  have e2 : (127 : Int32).toInt = 127 := by decide
  rw [decide_eq_true (Int32.le_iff_toInt_le.mpr (by rw [e1]; exact h1.1)), decide_eq_true (Int32.le_iff_toInt_le.mpr (by rw [e2]; exact h1.2))]
  rfl
