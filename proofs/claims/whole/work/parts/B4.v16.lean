/-! Worlds up to their order, worlds in part, calls beside cells that they don't know. -/
theorem pmP {D : va_G} {cl : List vw_C} {ws ws' : va_W} {H : Heap} (h : ws.Perm ws') (hP : va_P D cl ws H) : va_P D cl ws' H := by
  intro k q hq
  obtain ⟨i, hi⟩ := List.getElem?_of_mem (h.mem_iff.mpr (List.mem_of_getElem? hq))
  exact hP i q hi
theorem dN1 {A : Nat → Prop} {ws : va_W} (h : va_D A ws) : (ws.map Prod.fst).Nodup := by
  refine List.pairwise_iff_getElem.mpr (fun i j hi hj hij e => ?_)
  have hi' : i < ws.length := by simpa using hi
  have hj' : j < ws.length := by simpa using hj
  rw [List.getElem_map, List.getElem_map] at e
  have := h.1 i j ws[i] ws[j] (List.getElem?_eq_getElem hi') (List.getElem?_eq_getElem hj') e
  omega
theorem dN2 {A : Nat → Prop} {ws : va_W} (h : (ws.map Prod.fst).Nodup) (hA : ∀ q ∈ ws, A q.1) : va_D A ws := by
  refine ⟨fun i j p q hp hq e => ?_, fun k q hq => hA q (List.mem_of_getElem? hq)⟩
  obtain ⟨hi, rfl⟩ := List.getElem?_eq_some_iff.mp hp
  obtain ⟨hj, rfl⟩ := List.getElem?_eq_some_iff.mp hq
  have key := List.pairwise_iff_getElem.mp h
  rcases Nat.lt_trichotomy i j with g | g | g
  · have h1 := key i j (by simpa using hi) (by simpa using hj) g
    rw [List.getElem_map, List.getElem_map] at h1
    exact absurd e h1
  · exact g
  · have h1 := key j i (by simpa using hj) (by simpa using hi) g
    rw [List.getElem_map, List.getElem_map] at h1
    exact absurd e.symm h1
theorem pmD {A : Nat → Prop} {ws ws' : va_W} (h : ws.Perm ws') (hD : va_D A ws) : va_D A ws' :=
  dN2 ((h.map _).nodup (dN1 hD)) (fun q hq => by
    obtain ⟨k, hk⟩ := List.getElem?_of_mem (h.mem_iff.mpr hq)
    exact hD.2 k q hk)
theorem sbP {D : va_G} {cl : List vw_C} {ws ws' : va_W} {H : Heap} (h : ws'.Sublist ws) (hP : va_P D cl ws H) : va_P D cl ws' H := fun k q hq => by
  obtain ⟨i, hi⟩ := List.getElem?_of_mem (h.subset (List.mem_of_getElem? hq))
  exact hP i q hi
theorem sbD {A : Nat → Prop} {ws ws' : va_W} (h : ws'.Sublist ws) (hD : va_D A ws) : va_D A ws' :=
  dN2 (List.Pairwise.sublist (h.map _) (dN1 hD)) (fun q hq => by
    obtain ⟨k, hk⟩ := List.getElem?_of_mem (h.subset hq)
    exact hD.2 k q hk)
theorem spP {D : va_G} {cl : List vw_C} {wr wc : va_W} {H : Heap} (hP : va_P D cl (wr ++ wc) H) : va_P D cl wc H := sbP (List.sublist_append_right _ _) hP
theorem spD {A : Nat → Prop} {wr wc : va_W} (hD : va_D A (wr ++ wc)) : va_D A wc := sbD (List.sublist_append_right _ _) hD
def fiN (n k : Nat) : List Nat := (List.range k).map (fun i => n + i)
theorem fiC (wr wc : va_W) : (fiN wr.length wc.length).map (fun i => (wr ++ wc)[i]?) = wc.map some := by
  unfold fiN
  rw [List.map_map, ← rg_map wc]
  refine List.map_congr_left (fun i _ => ?_)
  show (wr ++ wc)[wr.length + i]? = wc[i]?
  rw [List.getElem?_append_right (Nat.le_add_right _ _), Nat.add_sub_cancel_left]
theorem fiR (wr wc : va_W) : (List.range wr.length).map (fun i => (wr ++ wc)[i]?) = wr.map some := by
  rw [← rg_map wr]
  exact List.map_congr_left (fun i hi => List.getElem?_append_left (List.mem_range.mp hi))
theorem fiD (wr wc : va_W) : ∀ i ∈ List.range wr.length, i ∉ fiN wr.length wc.length := by
  intro i hi hm
  have h1 := List.mem_range.mp hi
  obtain ⟨j, -, e⟩ := List.mem_map.mp hm
  have e : wr.length + j = i := e
  omega
section JK
variable {p : Program} {l : Launch} {e : Env} {R : Room} {s : State} {m : MethodId} {args : Array Value} {below : List Frame} {meth : Method} {c : Code} {H : Heap} {locs : List Loc} {cells slots : Nat} {Q : State → Prop}
variable {D : va_G} {dA : Nat → ClassId} {A : Nat → Prop} {cc : ByteArray} {pc : Nat} {ls : Array Slot} {rest st0 : List Value} {ws wr wc : va_W} {a : Nat}
theorem jkV {mc ms : Nat} {S : Type} {post : S → Prop} {w1 : S → va_W} {a : Array Value} (hr : va_Run p l e R s m args below meth c H locs cells slots mc ms (F0 m pc ls st0) rest (va_Qv post (fun u t => bW D (va_A wc H.size) (w1 u) t) (va_A wc H.size) a) (va_A wc H.size))
    (hP : va_P D vwCl (wr ++ wc) H) (hD : va_D A (wr ++ wc)) (hS : va_S A s.heap H locs) (hA : ∀ q, s.heap.size ≤ q → A q)
    (kk : ∀ (u : S) (H1 : Heap) (locs1 : List Loc), post u → va_P D vwCl (wr ++ w1 u) H1 → va_D A (wr ++ w1 u) → va_S A s.heap H1 locs1 → W p l e R s m args below meth c H1 locs1 (cells + mc) (slots + ms) Q (F0 m (pc + 3) ls rest)) : W p l e R s m args below meth c H locs cells slots Q (F0 m pc ls st0) :=
  jnV hr hP hD hS hA (fiN wr.length wc.length) (List.range wr.length) (fiC wr wc) (fiR wr wc) (nd_of List.nodup_range) (fiD wr wc) kk
theorem jkI {mc ms : Nat} {S : Type} {post : Int32 → S → Prop} {w1 : S → va_W} {a : Array Value} (hr : va_Run p l e R s m args below meth c H locs cells slots mc ms (F0 m pc ls st0) rest (va_Qi post (fun u t => bW D (va_A wc H.size) (w1 u) t) (va_A wc H.size) a) (va_A wc H.size))
    (hP : va_P D vwCl (wr ++ wc) H) (hD : va_D A (wr ++ wc)) (hS : va_S A s.heap H locs) (hA : ∀ q, s.heap.size ≤ q → A q)
    (kk : ∀ (r : Int32) (u : S) (H1 : Heap) (locs1 : List Loc), post r u → va_P D vwCl (wr ++ w1 u) H1 → va_D A (wr ++ w1 u) → va_S A s.heap H1 locs1 → W p l e R s m args below meth c H1 locs1 (cells + mc) (slots + ms) Q (F0 m (pc + 3) ls (.int r :: rest))) : W p l e R s m args below meth c H locs cells slots Q (F0 m pc ls st0) :=
  jnI hr hP hD hS hA (fiN wr.length wc.length) (List.range wr.length) (fiC wr wc) (fiR wr wc) (nd_of List.nodup_range) (fiD wr wc) kk
theorem jkL {mc ms : Nat} {S : Type} {post : Int64 → S → Prop} {w1 : S → va_W} {a : Array Value} (hr : va_Run p l e R s m args below meth c H locs cells slots mc ms (F0 m pc ls st0) rest (va_Ql post (fun u t => bW D (va_A wc H.size) (w1 u) t) (va_A wc H.size) a) (va_A wc H.size))
    (hP : va_P D vwCl (wr ++ wc) H) (hD : va_D A (wr ++ wc)) (hS : va_S A s.heap H locs) (hA : ∀ q, s.heap.size ≤ q → A q)
    (kk : ∀ (r : Int64) (u : S) (H1 : Heap) (locs1 : List Loc), post r u → va_P D vwCl (wr ++ w1 u) H1 → va_D A (wr ++ w1 u) → va_S A s.heap H1 locs1 → W p l e R s m args below meth c H1 locs1 (cells + mc) (slots + ms) Q (F0 m (pc + 3) ls (.long r :: rest))) : W p l e R s m args below meth c H locs cells slots Q (F0 m pc ls st0) :=
  jnL hr hP hD hS hA (fiN wr.length wc.length) (List.range wr.length) (fiC wr wc) (fiR wr wc) (nd_of List.nodup_range) (fiD wr wc) kk
theorem jkR {mc ms : Nat} {S : Type} {post : S → Prop} {F : S → Nat → Prop} {w1 : S → Nat → va_W} {a : Array Value} (hr : va_Run p l e R s m args below meth c H locs cells slots mc ms (F0 m pc ls st0) rest (va_Qr post (fun u ra t => F u ra ∧ bW D (va_A wc H.size) (w1 u ra) t) (va_A wc H.size) a) (va_A wc H.size))
    (hP : va_P D vwCl (wr ++ wc) H) (hD : va_D A (wr ++ wc)) (hS : va_S A s.heap H locs) (hA : ∀ q, s.heap.size ≤ q → A q)
    (kk : ∀ (u : S) (ra : Nat) (H1 : Heap) (locs1 : List Loc), F u ra → va_P D vwCl (wr ++ w1 u ra) H1 → va_D A (wr ++ w1 u ra) → va_S A s.heap H1 locs1 → W p l e R s m args below meth c H1 locs1 (cells + mc) (slots + ms) Q (F0 m (pc + 3) ls (.ref ra :: rest))) : W p l e R s m args below meth c H locs cells slots Q (F0 m pc ls st0) := by
  have hF := va_free hD hS hA _ (fiC wr wc)
  refine va_callr hr hS (fun q _ h => hF q h) hF (fun u ra t H1 locs1 ht hvm hp hB hz hk hS1 => ?_)
  obtain ⟨hf, hB⟩ := hB
  have hP1 := hB.1
  rw [ht] at hP1
  obtain ⟨g1, g2⟩ := va_join hP hD _ _ (fiC wr wc) (fiR wr wc) (nd_of List.nodup_range) (fiD wr wc) hk hF hP1 hB.2
  exact kk u ra H1 locs1 hf g1 g2 hS1
theorem rkR {S : Type} {F : S → Nat → Prop} {w1 : S → Nat → va_W} {mc ms : Nat} {rt : FieldType} {x : Nat} (hx : p.tables.exec = Jvm.exec) (hb : c.code = cc) (hr : meth.sig.returnType = some rt) (hrt : (∃ n, rt = .object n) ∨ ∃ t, rt = .array t) (hlk : meth.locks = false) (hS : va_S A s.heap H locs) (u : S) (hf : F u x) (hP : va_P D vwCl (w1 u x) H) (hD : va_D A (w1 u x)) (hc : cells ≤ mc) (hsl : slots ≤ ms) (hdg : decode cc pc = .ok (.areturn, 1)) :
    W p l e R s m args below meth c H locs cells slots (MQ below (va_Qr (fun (_ : S) => True) (fun u ra t => F u ra ∧ bW D A (w1 u ra) t) A) args s mc ms A) (F0 m pc ls [.ref x]) :=
  W.widen hc hsl (W.aret hx hb hr hrt (Or.inr ⟨x, rfl⟩) (fun t ht _ => ⟨⟨u, x, rfl, trivial, hf, by rw [ht]; exact hP, hD⟩, hS.F ht⟩) hS.2.2 hdg hlk)
theorem jkN {mc ms : Nat} {S : Type} {w1 : S → va_W} {G : S → Prop} {a : Array Value} (hr : va_Run p l e R s m args below meth c H locs cells slots mc ms (F0 m pc ls st0) rest (va_Qq (fun r u => r = none ∧ G u) (fun u t => bW D (va_A wc H.size) (w1 u) t) (va_A wc H.size) a) (va_A wc H.size))
    (hP : va_P D vwCl (wr ++ wc) H) (hD : va_D A (wr ++ wc)) (hS : va_S A s.heap H locs) (hA : ∀ q, s.heap.size ≤ q → A q)
    (kk : ∀ (u : S) (H1 : Heap) (locs1 : List Loc), G u → va_P D vwCl (wr ++ w1 u) H1 → va_D A (wr ++ w1 u) → va_S A s.heap H1 locs1 → W p l e R s m args below meth c H1 locs1 (cells + mc) (slots + ms) Q (F0 m (pc + 3) ls (.null :: rest))) : W p l e R s m args below meth c H locs cells slots Q (F0 m pc ls st0) := by
  have hF := va_free hD hS hA _ (fiC wr wc)
  refine va_callq hr hS (fun q _ h => hF q h) hF (fun r u t H1 locs1 ht hvm hp hB hz hk hS1 => ?_)
  obtain ⟨rfl, hg⟩ := hp
  have hP1 := hB.1
  rw [ht] at hP1
  obtain ⟨g1, g2⟩ := va_join hP hD _ _ (fiC wr wc) (fiR wr wc) (nd_of List.nodup_range) (fiD wr wc) hk hF hP1 hB.2
  exact kk u H1 locs1 hg g1 g2 hS1
theorem rkNul {S : Type} {G : S → Prop} {w1 : S → va_W} {mc ms : Nat} {rt : FieldType} (hx : p.tables.exec = Jvm.exec) (hb : c.code = cc) (hr : meth.sig.returnType = some rt) (hrt : (∃ n, rt = .object n) ∨ ∃ t, rt = .array t) (hlk : meth.locks = false) (hS : va_S A s.heap H locs) (u : S) (hg : G u) (hP : va_P D vwCl (w1 u) H) (hD : va_D A (w1 u)) (hc : cells ≤ mc) (hsl : slots ≤ ms) (hdg : decode cc pc = .ok (.areturn, 1)) :
    W p l e R s m args below meth c H locs cells slots (MQ below (va_Qq (fun r u => r = none ∧ G u) (fun u t => bW D A (w1 u) t) A) args s mc ms A) (F0 m pc ls [.null]) :=
  W.widen hc hsl (W.aret hx hb hr hrt (Or.inl rfl) (fun t ht _ => ⟨⟨none, u, rfl, ⟨rfl, hg⟩, by rw [ht]; exact hP, hD⟩, hS.F ht⟩) hS.2.2 hdg hlk)
variable {own C : String} {T : u_T} {N ci index : Nat} {fs : List Value}
theorem nOf (hx : p.tables.exec = Jvm.exec) (hb : c.code = cc) (hown : s.vm.findClass own = some m.cls) (hE : eV s) (hK : va_K D vwCl (arT dA) s) (hP : va_P D vwCl ws H) (hD : va_D A ws) (hS : va_S A s.heap H locs) (hA : ∀ q, s.heap.size ≤ q → A q) (hc : vwCl[ci]? = some (C, T, N)) (hlay : ∀ w ∈ u_ws C T N, w ∈ aW) (ty0 : Nat → FieldType) (hty : ∀ k, k < N → parseFieldDescriptor (T k).2.2.1 = some (ty0 k))
    (hcl : Cond.classLink own index C ∈ aW) (hinst : Cond.instantiable C N ∈ aW) (hini : Cond.initialized C ∈ aW) (hfs : ∀ j, j < N → defaultValue (ty0 j) = vp_V fs j) (hcells : cells + 1 ≤ R.cells) (hslots : slots + N ≤ R.slots) (hdg : decode cc pc = .ok (.new index, 3))
    (kk : ∀ (q : Nat) (H1 : Heap), va_P D vwCl ((q, .inr (ci, fs)) :: ws) H1 → va_D A ((q, .inr (ci, fs)) :: ws) → va_S A s.heap H1 locs → W p l e R s m args below meth c H1 locs (cells + 1) (slots + N) Q (F0 m (pc + 3) ls (.ref q :: rest))) : W p l e R s m args below meth c H locs cells slots Q (F0 m pc ls rest) :=
  nO hx hb hown hE hK hP hD hS hA hc hlay ty0 hty hcl hinst hini hfs hcells hslots hdg (fun q H1 g1 g2 g3 => kk q H1 (frP g1) (frD g2) g3)
theorem nnQ (hexec : p.tables.exec = Jvm.exec) (hb : c.code = cc) {own C : String} {index : Nat} (hown : s.vm.findClass own = some m.cls) (hE : eV s) (hclink : Cond.classLink own index C ∈ aW) (hover : Cond.arrayOver (.object C) ∈ aW) (hK : va_K D vwCl (arT dA) s) (hP : va_P D vwCl ws H) (hD : va_D A ws) (hS : va_S A s.heap H locs) (hA : ∀ q, s.heap.size ≤ q → A q)
    (t0 : Nat) {cA0 : ClassId} (ht0 : (arT dA)[t0]? = some (cA0, .object C)) {N' : Nat} (hn : N' < 2 ^ 31) (hbytes : N' * 4 ≤ 536870912) (hcells : cells + 1 ≤ R.cells) (hslots : slots + N' ≤ R.slots) (hdg : decode cc pc = .ok (.anewarray index, 3))
    (kk : ∀ (q : Nat) (H1 : Heap), va_P D vwCl ((q, .inl (cA0, N', .inr (.inr (.inr (.inr (fun _ => none)))))) :: ws) H1 → va_D A ((q, .inl (cA0, N', .inr (.inr (.inr (.inr (fun _ => none)))))) :: ws) → va_S A s.heap H1 locs → W p l e R s m args below meth c H1 locs (cells + 1) (slots + N') Q (F0 m (pc + 3) ls (.ref q :: rest))) : W p l e R s m args below meth c H locs cells slots Q (F0 m pc ls (.int (nI N') :: rest)) :=
  nwQ hexec hb hown hE hclink hover hK hP hD hS hA t0 ht0 (nI_pos hn) (nI_clamp hn) hbytes hcells hslots hdg (fun q H1 g1 g2 g3 => kk q H1 (frP g1) (frD g2) g3)
end JK
/-- what is made goes to what never changes -/
theorem plPerm {dA : Nat → ClassId} {h : Nat} {ad : Nat → Nat} (x : VS) (fr : va_W) : (fr ++ VW dA h ad x).Perm (VW dA h ad (VS.s_pl x (x.pl ++ fr))) := by
  refine List.perm_append_comm.trans (List.Perm.of_eq ?_)
  unfold VW VWf
  rw [List.append_assoc, List.append_assoc]
section QN
variable {p : Program} {l : Launch} {e : Env} {R : Room} {s : State} {m : MethodId} {args : Array Value} {below : List Frame} {meth : Method} {c : Code} {H : Heap} {locs : List Loc} {cells slots : Nat} {Q : State → Prop}
variable {D : va_G} {dA : Nat → ClassId} {A : Nat → Prop} {cc : ByteArray} {pc : Nat} {ls : Array Slot} {rest st0 : List Value} {ws : va_W} {a : Nat}
theorem nqstN (hx : p.tables.exec = Jvm.exec) (hb : c.code = cc) (hK : va_K D vwCl (arT dA) s) (hP : va_P D vwCl ws H) (hD : va_D A ws) (hS : va_S A s.heap H locs) (q0 t0 : Nat) {cA : ClassId} {C : String} {n : Nat} {f : Nat → Option Nat} (ha : ws[q0]? = some (a, .inl (cA, n, .inr (.inr (.inr (.inr f)))))) (ht : (arT dA)[t0]? = some (cA, .object C)) (j : Nat) (hj : j < n) (hn : n < 2 ^ 31) (hdg : decode cc pc = .ok (.aastore, 1))
    (kk : ∀ (H1 : Heap) (locs1 : List Loc), va_P D vwCl (ws.set q0 (a, .inl (cA, n, .inr (.inr (.inr (.inr (va_up f j none))))))) H1 → va_D A (ws.set q0 (a, .inl (cA, n, .inr (.inr (.inr (.inr (va_up f j none))))))) → va_S A s.heap H1 locs1 → W p l e R s m args below meth c H1 locs1 cells slots Q (F0 m (pc + 1) ls rest)) : W p l e R s m args below meth c H locs cells slots Q (F0 m pc ls (.null :: .int (nI j) :: .ref a :: rest)) :=
  va_astqN hx hb hK hP hD hS q0 t0 ha ht (vp_in_nI hj hn) hdg (by rw [nI_clamp (by omega)]; exact kk)
theorem nqstO (hx : p.tables.exec = Jvm.exec) (hb : c.code = cc) (hK : va_K D vwCl (arT dA) s) (hP : va_P D vwCl ws H) (hD : va_D A ws) (hS : va_S A s.heap H locs) (q0 t0 qk ci : Nat) {E : String} {cA : ClassId} {r : vw_C} {n v : Nat} {vs : List Value} {f : Nat → Option Nat} (ha : ws[q0]? = some (a, .inl (cA, n, .inr (.inr (.inr (.inr f)))))) (ht : (arT dA)[t0]? = some (cA, .object E)) (hca : va_Nw (.castable r.1 E) s) (hv : ws[qk]? = some (v, .inr (ci, vs))) (hc : vwCl[ci]? = some r) (j : Nat) (hj : j < n) (hn : n < 2 ^ 31) (hdg : decode cc pc = .ok (.aastore, 1))
    (kk : ∀ (H1 : Heap) (locs1 : List Loc), va_P D vwCl (ws.set q0 (a, .inl (cA, n, .inr (.inr (.inr (.inr (va_up f j (some v)))))))) H1 → va_D A (ws.set q0 (a, .inl (cA, n, .inr (.inr (.inr (.inr (va_up f j (some v)))))))) → va_S A s.heap H1 locs1 → W p l e R s m args below meth c H1 locs1 cells slots Q (F0 m (pc + 1) ls rest)) : W p l e R s m args below meth c H locs cells slots Q (F0 m pc ls (.ref v :: .int (nI j) :: .ref a :: rest)) :=
  va_astqO hx hb hK hP hD hS q0 t0 qk ci ha ht hca hv hc (vp_in_nI hj hn) hdg (by rw [nI_clamp (by omega)]; exact kk)
end QN
/-! Zero bits above and below, as the JDK counts them. -/
def ushI (x : Int32) (k : Int32) : Int32 := (x.toUInt32 >>> (k.toUInt32 &&& Int32.toUInt32 31)).toInt32
def ushL (x : Int64) (k : Int32) : Int64 := (x.toUInt64 >>> (k.toInt64.toUInt64 &&& Int64.toUInt64 63)).toInt64
theorem vx_cnt : ∀ j : Fin 32, (UInt32.ofNat j.val &&& Int32.toUInt32 31).toNat % 32 = j.val := by decide +kernel
theorem ushI_N {k j : Nat} (hk : k < 2 ^ 32) (hj : j < 32) : ushI (nI k) (nI j) = nI (k / 2 ^ j) := by
  have hs : k >>> j ≤ k := by
    rw [Nat.shiftRight_eq_div_pow]
    exact Nat.div_le_self _ _
  have e2 : UInt32.ofNat k >>> (UInt32.ofNat j &&& Int32.toUInt32 31) = UInt32.ofNat (k >>> j) := by
    apply UInt32.toNat_inj.1
    have h1 : (UInt32.ofNat k).toNat = k := Nat.mod_eq_of_lt (by omega)
    have h2 : (UInt32.ofNat (k >>> j)).toNat = k >>> j := Nat.mod_eq_of_lt (by omega)
    rw [UInt32.toNat_shiftRight, vx_cnt ⟨j, hj⟩, h1, h2]
  show (UInt32.ofNat k >>> (UInt32.ofNat j &&& Int32.toUInt32 31)).toInt32 = _
  rw [e2, Nat.shiftRight_eq_div_pow]
  rfl
theorem vx_cu : ∀ k, k < 64 → ((nI k).toInt64.toUInt64 &&& Int64.toUInt64 63) = UInt64.ofNat k := by decide +kernel
theorem vx_of (x : Int64) : ∃ n, n < 2 ^ 64 ∧ x = lN n := ⟨x.toBitVec.toNat, x.toBitVec.isLt, Int64.toBitVec_inj.mp (by show _ = BitVec.ofNat 64 _; simp)⟩
theorem vx_of32 (x : Int32) : ∃ n, n < 2 ^ 32 ∧ x = nI n := ⟨x.toBitVec.toNat, x.toBitVec.isLt, Int32.toBitVec_inj.mp (by show _ = BitVec.ofNat 32 _; simp)⟩
theorem ushL_N {n k : Nat} (hn : n < 2 ^ 64) (hk : k < 64) : ushL (lN n) (nI k) = lN (n / 2 ^ k) := by
  unfold ushL
  rw [vx_cu k hk]
  apply Int64.toBitVec_inj.mp
  apply BitVec.eq_of_toNat_eq
  show ((lN n).toUInt64 >>> UInt64.ofNat k).toNat = (BitVec.ofNat 64 _).toNat
  have h1 : (UInt64.ofNat k).toNat = k := by
    show (BitVec.ofNat 64 k).toNat = k
    rw [BitVec.toNat_ofNat, Nat.mod_eq_of_lt (by omega)]
  have h2 : (lN n).toUInt64.toNat = n := by
    show (BitVec.ofNat 64 n).toNat = n
    rw [BitVec.toNat_ofNat, Nat.mod_eq_of_lt hn]
  rw [UInt64.toNat_shiftRight, h1, h2, Nat.mod_eq_of_lt hk, Nat.shiftRight_eq_div_pow, BitVec.toNat_ofNat, Nat.mod_eq_of_lt (Nat.lt_of_le_of_lt (Nat.div_le_self _ _) hn)]
theorem lN_toI (n : Nat) : (lN n).toInt32 = nI n := by
  apply Int32.toBitVec_inj.mp
  apply BitVec.eq_of_toNat_eq
  show (BitVec.signExtend 32 (BitVec.ofNat 64 n)).toNat = (BitVec.ofNat 32 n).toNat
  rw [BitVec.signExtend_eq_setWidth_of_le _ (by decide), BitVec.toNat_setWidth, BitVec.toNat_ofNat, BitVec.toNat_ofNat]
  omega
theorem nI_m32 (n : Nat) : nI n = nI (n % 2 ^ 32) := by
  apply Int32.toBitVec_inj.mp
  apply BitVec.eq_of_toNat_eq
  show (BitVec.ofNat 32 n).toNat = (BitVec.ofNat 32 (n % 2 ^ 32)).toNat
  rw [BitVec.toNat_ofNat, BitVec.toNat_ofNat, Nat.mod_mod]
theorem nI_z0 {n : Nat} (h : n < 2 ^ 32) : nI n = 0 ↔ n = 0 := by
  refine ⟨fun e => ?_, fun e => by rw [e]; rfl⟩
  have e1 : (BitVec.ofNat 32 n).toNat = (BitVec.ofNat 32 0).toNat := congrArg (fun z : Int32 => z.toBitVec.toNat) e
  rw [BitVec.toNat_ofNat, BitVec.toNat_ofNat, Nat.mod_eq_of_lt h] at e1
  exact e1
theorem nI_gt {n : Nat} (h : n < 2 ^ 32) : (0 < nI n) ↔ (0 < n ∧ n < 2 ^ 31) := by
  by_cases h1 : n < 2 ^ 31
  · rw [show (0 : Int32) = nI 0 from rfl, nI_ltI (by decide) h1]
    omega
  · constructor
    · intro h2
      exfalso
      have h3 := Int32.lt_iff_toInt_lt.mp h2
      have h4 : (nI n).toInt = (BitVec.ofNat 32 n).toInt := rfl
      rw [h4, BitVec.toInt_eq_toNat_cond, BitVec.toNat_ofNat, Nat.mod_eq_of_lt h, if_neg (by omega)] at h3
      have h5 : (0 : Int32).toInt = 0 := by decide
      rw [h5] at h3
      omega
    · intro h2
      omega
/-- leading zeros, a step: if the number is too large it goes down -/
def nlS (t k d : Int32) (p : Int32 × Int32) : Int32 × Int32 := if p.1 < t then p else (ushI p.1 k, p.2 + d)
def nl4 (x : Int32) : Int32 × Int32 := nlS 4 2 (-2) (nlS 16 4 (-4) (nlS 256 8 (-8) (nlS 65536 16 (-16) (x, 31))))
def nlI (x : Int32) : Int32 := if 0 < x then (nl4 x).2 - ushI (nl4 x).1 1 else if x = 0 then 32 else 0
def nS (T k : Nat) (p : Nat × Nat) : Nat × Nat := if p.1 < T then p else (p.1 / 2 ^ k, p.2 - k)
theorem nI_dn {c k : Nat} (d : Int32) (hd : d + nI k = 0) (h : k ≤ c) : nI c + d = nI (c - k) := by
  have e : nI c = nI (c - k) + nI k := by rw [nI_add]; congr 1; omega
  rw [e, Int32.add_assoc, Int32.add_comm (nI k) d, hd, Int32.add_zero]
theorem nlS_N {T k v c : Nat} (d : Int32) (hd : d + nI k = 0) (hk : k < 32) (hT : T < 2 ^ 31) (hv : v < 2 ^ 31) (h : k ≤ c) : nlS (nI T) (nI k) d (nI v, nI c) = (nI (nS T k (v, c)).1, nI (nS T k (v, c)).2) := by
  unfold nlS nS
  by_cases g : v < T
  · rw [if_pos ((nI_ltI hv hT).mpr g), if_pos g]
  · rw [if_neg (mt (nI_ltI hv hT).mp g), if_neg g]
    show (ushI (nI v) (nI k), nI c + d) = (nI (v / 2 ^ k), nI (c - k))
    rw [ushI_N (by omega) hk, nI_dn d hd h]
theorem nS_ok {n T k : Nat} {p : Nat × Nat} (h1 : p.1 = n / 2 ^ (31 - p.2)) (h2 : p.2 ≤ 31) (h3 : 0 < p.1) (hk : k ≤ p.2) (hT : 2 ^ k ≤ T) : (nS T k p).1 = n / 2 ^ (31 - (nS T k p).2) ∧ (nS T k p).2 ≤ 31 ∧ 0 < (nS T k p).1 := by
  unfold nS
  by_cases g : p.1 < T
  · rw [if_pos g]
    exact ⟨h1, h2, h3⟩
  · rw [if_neg g]
    refine ⟨?_, by show p.2 - k ≤ 31; omega, Nat.div_pos (by omega) (Nat.two_pow_pos k)⟩
    show p.1 / 2 ^ k = n / 2 ^ (31 - (p.2 - k))
    rw [h1, Nat.div_div_eq_div_mul, ← Nat.pow_add]
    congr 2
    omega
theorem nl4_N {n : Nat} (h0 : 0 < n) (hn : n < 2 ^ 31) : ∃ v c : Nat, nl4 (nI n) = (nI v, nI c) ∧ v = n / 2 ^ (31 - c) ∧ c ≤ 31 ∧ 1 ≤ c ∧ 0 < v ∧ v < 4 := by
  have a0 : (n, 31).1 = n / 2 ^ (31 - (n, 31).2) := by show n = n / 2 ^ 0; rw [Nat.pow_zero, Nat.div_one]
  obtain ⟨a1, b1, c1⟩ := nS_ok (T := 65536) (k := 16) a0 (by show 31 ≤ 31; omega) h0 (by show 16 ≤ 31; omega) (by decide)
  have e1 := nlS_N (T := 65536) (k := 16) (v := n) (c := 31) (-16) (by decide) (by decide) (by decide) hn (by decide)
  have d1 : (nS 65536 16 (n, 31)).1 < 65536 ∧ 15 ≤ (nS 65536 16 (n, 31)).2 := by
    unfold nS
    split
    · next g => exact ⟨g, by show 15 ≤ 31; omega⟩
    · refine ⟨?_, by show 15 ≤ 31 - 16; omega⟩
      show n / 2 ^ 16 < 65536
      omega
  generalize nS 65536 16 (n, 31) = p1 at *
  obtain ⟨v1, m1⟩ := p1
  have a1 : v1 = n / 2 ^ (31 - m1) := a1
  have b1 : m1 ≤ 31 := b1
  have c1 : 0 < v1 := c1
  have d1 : v1 < 65536 ∧ 15 ≤ m1 := d1
  obtain ⟨a2, b2, c2⟩ := nS_ok (T := 256) (k := 8) (p := (v1, m1)) a1 b1 c1 (show 8 ≤ m1 by omega) (by decide)
  have e2 := nlS_N (T := 256) (k := 8) (v := v1) (c := m1) (-8) (by decide) (by decide) (by decide) (by omega) (by omega)
  have d2 : (nS 256 8 (v1, m1)).1 < 256 ∧ 7 ≤ (nS 256 8 (v1, m1)).2 := by
    unfold nS
    split
    · next g => exact ⟨g, by show 7 ≤ m1; omega⟩
    · refine ⟨?_, by show 7 ≤ m1 - 8; omega⟩
      show v1 / 2 ^ 8 < 256
      omega
  generalize nS 256 8 (v1, m1) = p2 at *
  obtain ⟨v2, m2⟩ := p2
  have a2 : v2 = n / 2 ^ (31 - m2) := a2
  have b2 : m2 ≤ 31 := b2
  have c2 : 0 < v2 := c2
  have d2 : v2 < 256 ∧ 7 ≤ m2 := d2
  obtain ⟨a3, b3, c3⟩ := nS_ok (T := 16) (k := 4) (p := (v2, m2)) a2 b2 c2 (show 4 ≤ m2 by omega) (by decide)
  have e3 := nlS_N (T := 16) (k := 4) (v := v2) (c := m2) (-4) (by decide) (by decide) (by decide) (by omega) (by omega)
  have d3 : (nS 16 4 (v2, m2)).1 < 16 ∧ 3 ≤ (nS 16 4 (v2, m2)).2 := by
    unfold nS
    split
    · next g => exact ⟨g, by show 3 ≤ m2; omega⟩
    · refine ⟨?_, by show 3 ≤ m2 - 4; omega⟩
      show v2 / 2 ^ 4 < 16
      omega
  generalize nS 16 4 (v2, m2) = p3 at *
  obtain ⟨v3, m3⟩ := p3
  have a3 : v3 = n / 2 ^ (31 - m3) := a3
  have b3 : m3 ≤ 31 := b3
  have c3 : 0 < v3 := c3
  have d3 : v3 < 16 ∧ 3 ≤ m3 := d3
  obtain ⟨a4, b4, c4⟩ := nS_ok (T := 4) (k := 2) (p := (v3, m3)) a3 b3 c3 (show 2 ≤ m3 by omega) (by decide)
  have e4 := nlS_N (T := 4) (k := 2) (v := v3) (c := m3) (-2) (by decide) (by decide) (by decide) (by omega) (by omega)
  have d4 : (nS 4 2 (v3, m3)).1 < 4 ∧ 1 ≤ (nS 4 2 (v3, m3)).2 := by
    unfold nS
    split
    · next g => exact ⟨g, by show 1 ≤ m3; omega⟩
    · refine ⟨?_, by show 1 ≤ m3 - 2; omega⟩
      show v3 / 2 ^ 2 < 4
      omega
  generalize nS 4 2 (v3, m3) = p4 at *
  obtain ⟨v4, m4⟩ := p4
  refine ⟨v4, m4, ?_, a4, b4, d4.2, c4, d4.1⟩
  unfold nl4
  have e1 : nlS 65536 16 (-16) (nI n, 31) = (nI v1, nI m1) := e1
  have e2 : nlS 256 8 (-8) (nI v1, nI m1) = (nI v2, nI m2) := e2
  have e3 : nlS 16 4 (-4) (nI v2, nI m2) = (nI v3, nI m3) := e3
  have e4 : nlS 4 2 (-2) (nI v3, nI m3) = (nI v4, nI m4) := e4
  rw [e1, e2, e3, e4]
theorem nlI_N {n : Nat} (h0 : 0 < n) (hn : n < 2 ^ 31) : nlI (nI n) = nI (31 - n.log2) := by
  obtain ⟨v, c, e, hv, hc, hc1, hv0, hv4⟩ := nl4_N h0 hn
  unfold nlI
  rw [if_pos ((nI_gt (by omega)).mpr ⟨h0, hn⟩), e]
  show nI c - ushI (nI v) 1 = _
  rw [show (1 : Int32) = nI 1 from rfl, ushI_N (by omega) (by decide), pk_sub (by omega)]
  congr 1
  have hp := Nat.two_pow_pos (31 - c)
  have hl : n.log2 = 31 - c + v / 2 := by
    refine (Nat.log2_eq_iff (by omega)).mpr ?_
    have hv1 : v = 1 ∨ v = 2 ∨ v = 3 := by omega
    have g1 := Nat.div_mul_le_self n (2 ^ (31 - c))
    have g2 := Nat.lt_div_mul_add (a := n) hp
    rw [← hv] at g1 g2
    rcases hv1 with q | q | q
    · subst q
      rw [show 31 - c + 1 / 2 = 31 - c from rfl, Nat.pow_succ]
      omega
    · subst q
      rw [show 31 - c + 2 / 2 = 31 - c + 1 from rfl, Nat.pow_succ, Nat.pow_succ]
      omega
    · subst q
      rw [show 31 - c + 3 / 2 = 31 - c + 1 from rfl, Nat.pow_succ, Nat.pow_succ]
      omega
  rw [hl]
  omega
theorem nlI_neg {n : Nat} (h1 : 2 ^ 31 ≤ n) (hn : n < 2 ^ 32) : nlI (nI n) = 0 := by
  unfold nlI
  rw [if_neg (fun z => by have := (nI_gt hn).mp z; omega), if_neg (fun z => by have := (nI_z0 hn).mp z; omega)]
/-- .. of 64 bits -/
def nlL (x : Int64) : Int32 := if (ushL x 32).toInt32 = 0 then 32 + nlI x.toInt32 else nlI (ushL x 32).toInt32
def clzN (n : Nat) : Nat := if n = 0 then 64 else 63 - n.log2
theorem nlL_N {n : Nat} (hn : n < 2 ^ 64) : nlL (lN n) = nI (clzN n) := by
  have e1 : (ushL (lN n) 32).toInt32 = nI (n / 2 ^ 32) := by rw [show (32 : Int32) = nI 32 from rfl, ushL_N hn (by decide), lN_toI]
  have hd : n / 2 ^ 32 < 2 ^ 32 := by omega
  unfold nlL
  rw [e1]
  by_cases h0 : n / 2 ^ 32 = 0
  · rw [if_pos ((nI_z0 hd).mpr h0), lN_toI]
    have hlt : n < 2 ^ 32 := by omega
    by_cases h1 : n = 0
    · subst h1
      decide
    · unfold clzN
      rw [if_neg h1]
      by_cases h2 : n < 2 ^ 31
      · rw [nlI_N (by omega) h2, show (32 : Int32) = nI 32 from rfl, nI_add]
        congr 1
        have := (Nat.log2_lt h1).mpr h2
        omega
      · rw [nlI_neg (by omega) hlt]
        have h3 : n.log2 = 31 := (Nat.log2_eq_iff h1).mpr ⟨by omega, by omega⟩
        rw [h3]
        rfl
  · rw [if_neg (mt (nI_z0 hd).mp h0)]
    have h1 : n ≠ 0 := by omega
    unfold clzN
    rw [if_neg h1]
    by_cases h2 : n / 2 ^ 32 < 2 ^ 31
    · rw [nlI_N (by omega) h2]
      congr 1
      have hl : n.log2 = (n / 2 ^ 32).log2 + 32 := by
        have g := (Nat.log2_eq_iff (n := n / 2 ^ 32) (k := (n / 2 ^ 32).log2) h0).mp rfl
        refine (Nat.log2_eq_iff h1).mpr ⟨?_, ?_⟩
        · rw [Nat.pow_add]
          have := Nat.div_mul_le_self n (2 ^ 32)
          exact Nat.le_trans (Nat.mul_le_mul_right _ g.1) this
        · have hL : ∀ L : Nat, L + 32 + 1 = (L + 1) + 32 := fun L => by omega
          rw [hL, Nat.pow_add]
          exact (Nat.div_lt_iff_lt_mul (by decide)).mp g.2
      have := (Nat.log2_lt h0).mpr h2
      omega
    · rw [nlI_neg (by omega) hd]
      have h3 : n.log2 = 63 := (Nat.log2_eq_iff h1).mpr ⟨by omega, by omega⟩
      rw [h3]
      rfl
theorem clzN_le (n : Nat) : clzN n ≤ 64 := by
  unfold clzN
  split <;> omega
/-- trailing zeros -/
def ntS (t k d : Int32) (p : Int32 × Int32) : Int32 × Int32 := if p.1 ≤ t then p else (ushI p.1 k, p.2 + d)
def nt4 (i : Int32) : Int32 × Int32 := ntS 4 2 2 (ntS 16 4 4 (ntS 256 8 8 (ntS 65536 16 16 (i, 1))))
def ntB (i : Int32) : Int32 := if i ≤ 0 then i &&& 32 else (nt4 i).2 + ushI (nt4 i).1 1
def ntI (x : Int32) : Int32 := ntB ((x ^^^ (-1)) &&& (x - 1))
theorem ntB_p : ∀ t, t < 32 → ntB (nI (2 ^ t - 1)) = nI t := by decide +kernel
def ctG : Nat → Nat → Nat
  | 0, _ => 0
  | f + 1, n => if n % 2 = 0 then ctG f (n / 2) + 1 else 0
theorem ctG_p : ∀ (f n : Nat), 0 < n → n < 2 ^ f → ctG f n < f ∧ ∃ q, n = 2 ^ ctG f n * (2 * q + 1)
  | 0, n, h0, h1 => by simp at h1; omega
  | f + 1, n, h0, h1 => by
    unfold ctG
    by_cases h : n % 2 = 0
    · rw [if_pos h]
      obtain ⟨a, q, hq⟩ := ctG_p f (n / 2) (by omega) (by rw [Nat.pow_succ] at h1; omega)
      refine ⟨by omega, q, ?_⟩
      rw [Nat.pow_succ, Nat.mul_right_comm, ← hq]
      omega
    · rw [if_neg h]
      exact ⟨by omega, n / 2, by rw [Nat.pow_zero]; omega⟩
theorem nI_bit {n i : Nat} (hi : i < 32) : (nI n).toBitVec.getLsbD i = n.testBit i := by
  show (BitVec.ofNat 32 n).getLsbD i = _
  rw [BitVec.getLsbD_ofNat]
  simp [hi]
theorem m1_bit : ∀ i, i < 32 → (-1 : Int32).toBitVec.getLsbD i = true := by decide +kernel
theorem mask_N {t q : Nat} (ht : t < 32) : ((nI (2 ^ t * (2 * q + 1))) ^^^ (-1)) &&& (nI (2 ^ t * (2 * q + 1)) - 1) = nI (2 ^ t - 1) := by
  have hp := Nat.two_pow_pos t
  have hs : nI (2 ^ t * (2 * q + 1)) - 1 = nI (2 ^ t * (2 * q) + (2 ^ t - 1)) := by
    rw [show (1 : Int32) = nI 1 from rfl, pk_sub (by rw [Nat.mul_add]; omega)]
    congr 1
    rw [Nat.mul_add]
    omega
  rw [hs]
  apply Int32.toBitVec_inj.mp
  apply BitVec.eq_of_getLsbD_eq
  intro i hi
  rw [Int32.toBitVec_and, BitVec.getLsbD_and, Int32.toBitVec_xor, BitVec.getLsbD_xor, m1_bit i hi, nI_bit hi, nI_bit hi, nI_bit hi, Nat.testBit_two_pow_sub_one, Nat.testBit_two_pow_mul, Nat.testBit_two_pow_mul_add _ (by omega)]
  by_cases h : i < t
  · rw [if_pos h, Nat.testBit_two_pow_sub_one]
    simp [h]
  · rw [if_neg h]
    cases e : i - t with
    | zero => simp [h, Nat.testBit_zero]
    | succ j =>
      rw [Nat.testBit_succ, Nat.testBit_succ, show (2 * q + 1) / 2 = q by omega, show 2 * q / 2 = q by omega]
      simp [h]
theorem ntI_N {n : Nat} (h0 : 0 < n) (hn : n < 2 ^ 32) : ntI (nI n) = nI (ctG 32 n) := by
  obtain ⟨a, q, hq⟩ := ctG_p 32 n h0 hn
  unfold ntI
  rw [show nI n = nI (2 ^ ctG 32 n * (2 * q + 1)) by rw [← hq], mask_N a, ntB_p _ a]
def ntL (x : Int64) : Int32 := if x.toInt32 = 0 then 32 + ntI (ushL x 32).toInt32 else ntI x.toInt32
def ctzN (n : Nat) : Nat := if n = 0 then 64 else ctG 64 n
theorem ctG_f : ∀ (f g n : Nat), 0 < n → n < 2 ^ f → f ≤ g → ctG g n = ctG f n
  | 0, g, n, h0, h1, _ => by simp at h1; omega
  | f + 1, 0, n, h0, h1, h2 => by omega
  | f + 1, g + 1, n, h0, h1, h2 => by
    unfold ctG
    by_cases h : n % 2 = 0
    · rw [if_pos h, if_pos h, ctG_f f g (n / 2) (by omega) (by rw [Nat.pow_succ] at h1; omega) (by omega)]
    · rw [if_neg h, if_neg h]
theorem ctG_s : ∀ (k f n : Nat), 0 < n → ctG (k + f) (2 ^ k * n) = k + ctG f n
  | 0, f, n, _ => by rw [Nat.pow_zero, Nat.one_mul, Nat.zero_add, Nat.zero_add]
  | k + 1, f, n, h => by
    rw [show k + 1 + f = (k + f) + 1 by omega]
    show (if 2 ^ (k + 1) * n % 2 = 0 then ctG (k + f) (2 ^ (k + 1) * n / 2) + 1 else 0) = _
    have e : 2 ^ (k + 1) * n = 2 * (2 ^ k * n) := by rw [Nat.pow_succ, Nat.mul_comm (2 ^ k) 2, Nat.mul_assoc]
    rw [e, if_pos (by omega), show 2 * (2 ^ k * n) / 2 = 2 ^ k * n by omega, ctG_s k f n h]
    omega
theorem ctG_m : ∀ (k n : Nat), n % 2 ^ k ≠ 0 → ∀ f, k ≤ f → ctG f n = ctG k (n % 2 ^ k)
  | 0, n, h, _, _ => absurd (by rw [Nat.pow_zero, Nat.mod_one]) h
  | k + 1, n, h, 0, hf => by omega
  | k + 1, n, h, f + 1, hf => by
    have e1 : n % 2 ^ (k + 1) % 2 = n % 2 := by rw [Nat.mod_mod_of_dvd]; exact ⟨2 ^ k, by rw [Nat.pow_succ, Nat.mul_comm]⟩
    have e2 : n % 2 ^ (k + 1) / 2 = n / 2 % 2 ^ k := by rw [Nat.pow_succ, Nat.mul_comm, Nat.mod_mul_right_div_self]
    unfold ctG
    rw [e1, e2]
    by_cases g : n % 2 = 0
    · rw [if_pos g, if_pos g, ctG_m k (n / 2) (by intro z; rw [z] at e2; omega) f (by omega)]
    · rw [if_neg g, if_neg g]
theorem ntL_N {n : Nat} (hn : n < 2 ^ 64) : ntL (lN n) = nI (ctzN n) := by
  have e1 : (ushL (lN n) 32).toInt32 = nI (n / 2 ^ 32) := by rw [show (32 : Int32) = nI 32 from rfl, ushL_N hn (by decide), lN_toI]
  have hd : n / 2 ^ 32 < 2 ^ 32 := by omega
  have hm : n % 2 ^ 32 < 2 ^ 32 := by omega
  unfold ntL
  rw [e1, lN_toI, nI_m32 n]
  unfold ctzN
  by_cases h0 : n % 2 ^ 32 = 0
  · rw [if_pos ((nI_z0 hm).mpr h0)]
    by_cases h1 : n = 0
    · subst h1
      decide
    · rw [if_neg h1, ntI_N (by omega) hd, show (32 : Int32) = nI 32 from rfl, nI_add]
      congr 1
      have := ctG_s 32 32 (n / 2 ^ 32) (by omega)
      rw [← this]
      congr 1
      omega
  · rw [if_neg (mt (nI_z0 hm).mp h0), if_neg (by omega), ntI_N (by omega) hm, ctG_m 32 n h0 64 (by decide)]
theorem ctzN_le (n : Nat) (hn : n < 2 ^ 64) : ctzN n ≤ 64 := by
  unfold ctzN
  split
  · exact Nat.le_refl _
  · have := (ctG_p 64 n (by omega) hn).1
    omega
