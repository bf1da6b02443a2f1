/-! Worlds that are records: calls over the whole world, ends, arrays at places that are naturals. -/
theorem rg_map {α : Type} (ws : List α) : (List.range ws.length).map (fun i => ws[i]?) = ws.map some := by
  refine List.ext_getElem (by simp) (fun i h1 h2 => ?_)
  simp at h1 ⊢
def bI (b : Bool) : Int32 := if b then 1 else 0
theorem bI_0 {b : Bool} (h : bI b = 0) : b = false := by cases b <;> revert h <;> decide
theorem bI_n0 {b : Bool} (h : ¬ bI b = 0) : b = true := by cases b <;> revert h <;> decide
theorem bI_nar (b : Bool) : narrow .boolean (.int (bI b)) = .int (bI b) := by cases b <;> decide
theorem bI_vnar (b : Bool) : vp_nar .boolean (bI b) = bI b := by cases b <;> decide
theorem iincN (a k : Nat) (z : Int) (hz : Int32.ofInt z = nI k) : nI a + Int32.ofInt z = nI (a + k) := by rw [hz]; exact nI_add a k
theorem iincM {a : Nat} (h : 0 < a) : nI a + Int32.ofInt (-1) = nI (a - 1) := by
  obtain ⟨k, rfl⟩ : ∃ k, a = k + 1 := ⟨a - 1, by omega⟩
  exact pk_m1 k
section FU
variable {p : Program} {l : Launch} {e : Env} {R : Room} {s : State} {m : MethodId} {args : Array Value} {below : List Frame} {meth : Method} {c : Code} {H : Heap} {locs : List Loc} {cells slots : Nat} {Q : State → Prop}
variable {D : va_G} {dA : Nat → ClassId} {A : Nat → Prop} {cc : ByteArray} {pc : Nat} {ls : Array Slot} {rest st0 : List Value} {ws : va_W} {a : Nat}
theorem jfV {mc ms : Nat} {S : Type} {post : S → Prop} {w1 : S → va_W} {a : Array Value} (hr : va_Run p l e R s m args below meth c H locs cells slots mc ms (F0 m pc ls st0) rest (va_Qv post (fun u t => bW D (va_A ws H.size) (w1 u) t) (va_A ws H.size) a) (va_A ws H.size))
    (hP : va_P D vwCl ws H) (hD : va_D A ws) (hS : va_S A s.heap H locs) (hA : ∀ q, s.heap.size ≤ q → A q)
    (kk : ∀ (u : S) (H1 : Heap) (locs1 : List Loc), post u → va_P D vwCl (w1 u) H1 → va_D A (w1 u) → va_S A s.heap H1 locs1 → W p l e R s m args below meth c H1 locs1 (cells + mc) (slots + ms) Q (F0 m (pc + 3) ls rest)) : W p l e R s m args below meth c H locs cells slots Q (F0 m pc ls st0) :=
  jnV hr hP hD hS hA (List.range ws.length) [] (wr := []) (rg_map ws) rfl rfl (fun _ h => nomatch h) (fun u H1 l1 g1 g2 g3 g4 => kk u H1 l1 g1 g2 g3 g4)
theorem jfI {mc ms : Nat} {S : Type} {post : Int32 → S → Prop} {w1 : S → va_W} {a : Array Value} (hr : va_Run p l e R s m args below meth c H locs cells slots mc ms (F0 m pc ls st0) rest (va_Qi post (fun u t => bW D (va_A ws H.size) (w1 u) t) (va_A ws H.size) a) (va_A ws H.size))
    (hP : va_P D vwCl ws H) (hD : va_D A ws) (hS : va_S A s.heap H locs) (hA : ∀ q, s.heap.size ≤ q → A q)
    (kk : ∀ (r : Int32) (u : S) (H1 : Heap) (locs1 : List Loc), post r u → va_P D vwCl (w1 u) H1 → va_D A (w1 u) → va_S A s.heap H1 locs1 → W p l e R s m args below meth c H1 locs1 (cells + mc) (slots + ms) Q (F0 m (pc + 3) ls (.int r :: rest))) : W p l e R s m args below meth c H locs cells slots Q (F0 m pc ls st0) :=
  jnI hr hP hD hS hA (List.range ws.length) [] (wr := []) (rg_map ws) rfl rfl (fun _ h => nomatch h) (fun r u H1 l1 g1 g2 g3 g4 => kk r u H1 l1 g1 g2 g3 g4)
theorem jfL {mc ms : Nat} {S : Type} {post : Int64 → S → Prop} {w1 : S → va_W} {a : Array Value} (hr : va_Run p l e R s m args below meth c H locs cells slots mc ms (F0 m pc ls st0) rest (va_Ql post (fun u t => bW D (va_A ws H.size) (w1 u) t) (va_A ws H.size) a) (va_A ws H.size))
    (hP : va_P D vwCl ws H) (hD : va_D A ws) (hS : va_S A s.heap H locs) (hA : ∀ q, s.heap.size ≤ q → A q)
    (kk : ∀ (r : Int64) (u : S) (H1 : Heap) (locs1 : List Loc), post r u → va_P D vwCl (w1 u) H1 → va_D A (w1 u) → va_S A s.heap H1 locs1 → W p l e R s m args below meth c H1 locs1 (cells + mc) (slots + ms) Q (F0 m (pc + 3) ls (.long r :: rest))) : W p l e R s m args below meth c H locs cells slots Q (F0 m pc ls st0) :=
  jnL hr hP hD hS hA (List.range ws.length) [] (wr := []) (rg_map ws) rfl rfl (fun _ h => nomatch h) (fun r u H1 l1 g1 g2 g3 g4 => kk r u H1 l1 g1 g2 g3 g4)
theorem rfV {S : Type} {post : S → Prop} {w1 : S → va_W} {mc ms : Nat} (hx : p.tables.exec = Jvm.exec) (hb : c.code = cc) (hr : meth.sig.returnType = none) (hlk : meth.locks = false) (hS : va_S A s.heap H locs) (u : S) (hp : post u) (hP : va_P D vwCl (w1 u) H) (hD : va_D A (w1 u)) (hc : cells ≤ mc) (hsl : slots ≤ ms) (hdg : decode cc pc = .ok (.return_, 1)) :
    W p l e R s m args below meth c H locs cells slots (MQ below (va_Qv post (fun u t => bW D A (w1 u) t) A) args s mc ms A) (F0 m pc ls []) :=
  W.widen hc hsl (W.vret hx hb hr (fun t ht _ => ⟨⟨u, rfl, hp, by rw [ht]; exact hP, hD⟩, hS.F ht⟩) hS.2.2 hdg hlk)
theorem rfI {S : Type} {post : Int32 → S → Prop} {w1 : S → va_W} {mc ms : Nat} {x : Int32} (hx : p.tables.exec = Jvm.exec) (hb : c.code = cc) (hr : meth.sig.returnType = some .int) (hlk : meth.locks = false) (hS : va_S A s.heap H locs) (u : S) (hp : post x u) (hP : va_P D vwCl (w1 u) H) (hD : va_D A (w1 u)) (hc : cells ≤ mc) (hsl : slots ≤ ms) (hdg : decode cc pc = .ok (.ireturn, 1)) :
    W p l e R s m args below meth c H locs cells slots (MQ below (va_Qi post (fun u t => bW D A (w1 u) t) A) args s mc ms A) (F0 m pc ls [.int x]) :=
  W.widen hc hsl (W.iret hx hb hr (fun t ht _ => ⟨⟨x, u, rfl, hp, by rw [ht]; exact hP, hD⟩, hS.F ht⟩) hS.2.2 hdg hlk)
theorem rfZ {S : Type} {post : Int32 → S → Prop} {w1 : S → va_W} {mc ms : Nat} {x : Int32} (hx : p.tables.exec = Jvm.exec) (hb : c.code = cc) (hr : meth.sig.returnType = some .boolean) (hz : narrow .boolean (.int x) = .int x) (hlk : meth.locks = false) (hS : va_S A s.heap H locs) (u : S) (hp : post x u) (hP : va_P D vwCl (w1 u) H) (hD : va_D A (w1 u)) (hc : cells ≤ mc) (hsl : slots ≤ ms) (hdg : decode cc pc = .ok (.ireturn, 1)) :
    W p l e R s m args below meth c H locs cells slots (MQ below (va_Qi post (fun u t => bW D A (w1 u) t) A) args s mc ms A) (F0 m pc ls [.int x]) :=
  W.widen hc hsl (W.zret hx hb hr hz (fun t ht _ => ⟨⟨x, u, rfl, hp, by rw [ht]; exact hP, hD⟩, hS.F ht⟩) hS.2.2 hdg hlk)
theorem rfL {S : Type} {post : Int64 → S → Prop} {w1 : S → va_W} {mc ms : Nat} {x : Int64} (hx : p.tables.exec = Jvm.exec) (hb : c.code = cc) (hr : meth.sig.returnType = some .long) (hlk : meth.locks = false) (hS : va_S A s.heap H locs) (u : S) (hp : post x u) (hP : va_P D vwCl (w1 u) H) (hD : va_D A (w1 u)) (hc : cells ≤ mc) (hsl : slots ≤ ms) (hdg : decode cc pc = .ok (.lreturn, 1)) :
    W p l e R s m args below meth c H locs cells slots (MQ below (va_Ql post (fun u t => bW D A (w1 u) t) A) args s mc ms A) (F0 m pc ls [.long x]) :=
  W.widen hc hsl (W.lret hx hb hr (fun t ht _ => ⟨⟨x, u, rfl, hp, by rw [ht]; exact hP, hD⟩, hS.F ht⟩) hS.2.2 hdg hlk)
theorem nild (hx : p.tables.exec = Jvm.exec) (hb : c.code = cc) (hK : va_K D vwCl (arT dA) s) (hP : va_P D vwCl ws H) (q0 t0 : Nat) {cA : ClassId} {n : Nat} {f : Nat → Int32} (ha : ws[q0]? = some (a, .inl (cA, n, .inl f))) (ht : (arT dA)[t0]? = some (cA, .int)) (j : Nat) (hj : j < n) (hn : n < 2 ^ 31) (hdg : decode cc pc = .ok (.iaload, 1))
    (kk : W p l e R s m args below meth c H locs cells slots Q (F0 m (pc + 1) ls (.int (f j) :: rest))) : W p l e R s m args below meth c H locs cells slots Q (F0 m pc ls (.int (nI j) :: .ref a :: rest)) :=
  va_iald hx hb hK hP q0 t0 ha ht (vp_in_nI hj hn) hdg (by rw [nI_clamp (by omega)]; exact kk)
theorem nbld (hx : p.tables.exec = Jvm.exec) (hb : c.code = cc) (hK : va_K D vwCl (arT dA) s) (hP : va_P D vwCl ws H) (q0 t0 : Nat) {cA : ClassId} {n : Nat} {f : Nat → Int32} (ha : ws[q0]? = some (a, .inl (cA, n, .inl f))) (ht : (arT dA)[t0]? = some (cA, .byte)) (j : Nat) (hj : j < n) (hn : n < 2 ^ 31) (hdg : decode cc pc = .ok (.baload, 1))
    (kk : W p l e R s m args below meth c H locs cells slots Q (F0 m (pc + 1) ls (.int (f j) :: rest))) : W p l e R s m args below meth c H locs cells slots Q (F0 m pc ls (.int (nI j) :: .ref a :: rest)) :=
  va_bald hx hb hK hP q0 t0 ha ht (vp_in_nI hj hn) hdg (by rw [nI_clamp (by omega)]; exact kk)
theorem nzld (hx : p.tables.exec = Jvm.exec) (hb : c.code = cc) (hK : va_K D vwCl (arT dA) s) (hP : va_P D vwCl ws H) (q0 t0 : Nat) {cA : ClassId} {n : Nat} {f : Nat → Int32} (ha : ws[q0]? = some (a, .inl (cA, n, .inl f))) (ht : (arT dA)[t0]? = some (cA, .boolean)) (j : Nat) (hj : j < n) (hn : n < 2 ^ 31) (hdg : decode cc pc = .ok (.baload, 1))
    (kk : W p l e R s m args below meth c H locs cells slots Q (F0 m (pc + 1) ls (.int (f j) :: rest))) : W p l e R s m args below meth c H locs cells slots Q (F0 m pc ls (.int (nI j) :: .ref a :: rest)) :=
  va_zald hx hb hK hP q0 t0 ha ht (vp_in_nI hj hn) hdg (by rw [nI_clamp (by omega)]; exact kk)
theorem nlld (hx : p.tables.exec = Jvm.exec) (hb : c.code = cc) (hK : va_K D vwCl (arT dA) s) (hP : va_P D vwCl ws H) (q0 t0 : Nat) {cA : ClassId} {n : Nat} {f : Nat → Int64} (ha : ws[q0]? = some (a, .inl (cA, n, .inr (.inl f)))) (ht : (arT dA)[t0]? = some (cA, .long)) (j : Nat) (hj : j < n) (hn : n < 2 ^ 31) (hdg : decode cc pc = .ok (.laload, 1))
    (kk : W p l e R s m args below meth c H locs cells slots Q (F0 m (pc + 1) ls (.long (f j) :: rest))) : W p l e R s m args below meth c H locs cells slots Q (F0 m pc ls (.int (nI j) :: .ref a :: rest)) :=
  va_lald hx hb hK hP q0 t0 ha ht (vp_in_nI hj hn) hdg (by rw [nI_clamp (by omega)]; exact kk)
theorem nist (hx : p.tables.exec = Jvm.exec) (hb : c.code = cc) (hK : va_K D vwCl (arT dA) s) (hP : va_P D vwCl ws H) (hD : va_D A ws) (hS : va_S A s.heap H locs) (q0 t0 : Nat) {cA : ClassId} {n : Nat} {f : Nat → Int32} (ha : ws[q0]? = some (a, .inl (cA, n, .inl f))) (ht : (arT dA)[t0]? = some (cA, .int)) {v : Int32} (j : Nat) (hj : j < n) (hn : n < 2 ^ 31) (hdg : decode cc pc = .ok (.iastore, 1))
    (kk : ∀ (H1 : Heap) (locs1 : List Loc), va_P D vwCl (ws.set q0 (a, .inl (cA, n, .inl (upd f j v)))) H1 → va_D A (ws.set q0 (a, .inl (cA, n, .inl (upd f j v)))) → va_S A s.heap H1 locs1 → W p l e R s m args below meth c H1 locs1 cells slots Q (F0 m (pc + 1) ls rest)) : W p l e R s m args below meth c H locs cells slots Q (F0 m pc ls (.int v :: .int (nI j) :: .ref a :: rest)) := by
  refine va_iast hx hb hK hP hD hS q0 t0 ha ht (vp_in_nI hj hn) hdg ?_
  rw [nI_clamp (by omega)]
  exact kk
theorem nbst (hx : p.tables.exec = Jvm.exec) (hb : c.code = cc) (hK : va_K D vwCl (arT dA) s) (hP : va_P D vwCl ws H) (hD : va_D A ws) (hS : va_S A s.heap H locs) (q0 t0 : Nat) {cA : ClassId} {n : Nat} {f : Nat → Int32} (ha : ws[q0]? = some (a, .inl (cA, n, .inl f))) (ht : (arT dA)[t0]? = some (cA, .byte)) {v : Int32} (j : Nat) (hj : j < n) (hn : n < 2 ^ 31) (w : Int32) (hw : vp_nar .byte v = w) (hdg : decode cc pc = .ok (.bastore, 1))
    (kk : ∀ (H1 : Heap) (locs1 : List Loc), va_P D vwCl (ws.set q0 (a, .inl (cA, n, .inl (upd f j w)))) H1 → va_D A (ws.set q0 (a, .inl (cA, n, .inl (upd f j w)))) → va_S A s.heap H1 locs1 → W p l e R s m args below meth c H1 locs1 cells slots Q (F0 m (pc + 1) ls rest)) : W p l e R s m args below meth c H locs cells slots Q (F0 m pc ls (.int v :: .int (nI j) :: .ref a :: rest)) := by
  refine va_bast hx hb hK hP hD hS q0 t0 ha ht (vp_in_nI hj hn) hdg ?_
  rw [nI_clamp (by omega), hw]
  exact kk
theorem nzst (hx : p.tables.exec = Jvm.exec) (hb : c.code = cc) (hK : va_K D vwCl (arT dA) s) (hP : va_P D vwCl ws H) (hD : va_D A ws) (hS : va_S A s.heap H locs) (q0 t0 : Nat) {cA : ClassId} {n : Nat} {f : Nat → Int32} (ha : ws[q0]? = some (a, .inl (cA, n, .inl f))) (ht : (arT dA)[t0]? = some (cA, .boolean)) {v : Int32} (j : Nat) (hj : j < n) (hn : n < 2 ^ 31) (w : Int32) (hw : vp_nar .boolean v = w) (hdg : decode cc pc = .ok (.bastore, 1))
    (kk : ∀ (H1 : Heap) (locs1 : List Loc), va_P D vwCl (ws.set q0 (a, .inl (cA, n, .inl (upd f j w)))) H1 → va_D A (ws.set q0 (a, .inl (cA, n, .inl (upd f j w)))) → va_S A s.heap H1 locs1 → W p l e R s m args below meth c H1 locs1 cells slots Q (F0 m (pc + 1) ls rest)) : W p l e R s m args below meth c H locs cells slots Q (F0 m pc ls (.int v :: .int (nI j) :: .ref a :: rest)) := by
  refine va_zast hx hb hK hP hD hS q0 t0 ha ht (vp_in_nI hj hn) hdg ?_
  rw [nI_clamp (by omega), hw]
  exact kk
theorem nlst (hx : p.tables.exec = Jvm.exec) (hb : c.code = cc) (hK : va_K D vwCl (arT dA) s) (hP : va_P D vwCl ws H) (hD : va_D A ws) (hS : va_S A s.heap H locs) (q0 t0 : Nat) {cA : ClassId} {n : Nat} {f : Nat → Int64} (ha : ws[q0]? = some (a, .inl (cA, n, .inr (.inl f)))) (ht : (arT dA)[t0]? = some (cA, .long)) {v : Int64} (j : Nat) (hj : j < n) (hn : n < 2 ^ 31) (hdg : decode cc pc = .ok (.lastore, 1))
    (kk : ∀ (H1 : Heap) (locs1 : List Loc), va_P D vwCl (ws.set q0 (a, .inl (cA, n, .inr (.inl (vp_updL f j v))))) H1 → va_D A (ws.set q0 (a, .inl (cA, n, .inr (.inl (vp_updL f j v))))) → va_S A s.heap H1 locs1 → W p l e R s m args below meth c H1 locs1 cells slots Q (F0 m (pc + 1) ls rest)) : W p l e R s m args below meth c H locs cells slots Q (F0 m pc ls (.long v :: .int (nI j) :: .ref a :: rest)) := by
  refine va_last hx hb hK hP hD hS q0 t0 ha ht (vp_in_nI hj hn) hdg ?_
  rw [nI_clamp (by omega)]
  exact kk
theorem updNI (f : Nat → Nat) (j v : Nat) : upd (fun k => nI (f k)) j (nI v) = fun k => nI (va_up f j v k) := by
  funext k
  by_cases h : k = j
  · subst h; rw [pk_us]; unfold va_up; rw [if_pos rfl]
  · rw [pk_un h]; unfold va_up; rw [if_neg h]
theorem updBI (f : Nat → Bool) (j : Nat) (v : Bool) : upd (fun k => bI (f k)) j (bI v) = fun k => bI (va_up f j v k) := by
  funext k
  by_cases h : k = j
  · subst h; rw [pk_us]; unfold va_up; rw [if_pos rfl]
  · rw [pk_un h]; unfold va_up; rw [if_neg h]
theorem nistN (hx : p.tables.exec = Jvm.exec) (hb : c.code = cc) (hK : va_K D vwCl (arT dA) s) (hP : va_P D vwCl ws H) (hD : va_D A ws) (hS : va_S A s.heap H locs) (q0 t0 : Nat) {cA : ClassId} {n : Nat} {f : Nat → Nat} (ha : ws[q0]? = some (a, .inl (cA, n, .inl (fun k => nI (f k))))) (ht : (arT dA)[t0]? = some (cA, .int)) {v : Nat} (j : Nat) (hj : j < n) (hn : n < 2 ^ 31) (hdg : decode cc pc = .ok (.iastore, 1))
    (kk : ∀ (H1 : Heap) (locs1 : List Loc), va_P D vwCl (ws.set q0 (a, .inl (cA, n, .inl (fun k => nI (va_up f j v k))))) H1 → va_D A (ws.set q0 (a, .inl (cA, n, .inl (fun k => nI (va_up f j v k))))) → va_S A s.heap H1 locs1 → W p l e R s m args below meth c H1 locs1 cells slots Q (F0 m (pc + 1) ls rest)) : W p l e R s m args below meth c H locs cells slots Q (F0 m pc ls (.int (nI v) :: .int (nI j) :: .ref a :: rest)) := by
  refine nist hx hb hK hP hD hS q0 t0 ha ht j hj hn hdg ?_
  rw [updNI]
  exact kk
theorem nzstB (hx : p.tables.exec = Jvm.exec) (hb : c.code = cc) (hK : va_K D vwCl (arT dA) s) (hP : va_P D vwCl ws H) (hD : va_D A ws) (hS : va_S A s.heap H locs) (q0 t0 : Nat) {cA : ClassId} {n : Nat} {f : Nat → Bool} (ha : ws[q0]? = some (a, .inl (cA, n, .inl (fun k => bI (f k))))) (ht : (arT dA)[t0]? = some (cA, .boolean)) {v : Bool} (j : Nat) (hj : j < n) (hn : n < 2 ^ 31) (hdg : decode cc pc = .ok (.bastore, 1))
    (kk : ∀ (H1 : Heap) (locs1 : List Loc), va_P D vwCl (ws.set q0 (a, .inl (cA, n, .inl (fun k => bI (va_up f j v k))))) H1 → va_D A (ws.set q0 (a, .inl (cA, n, .inl (fun k => bI (va_up f j v k))))) → va_S A s.heap H1 locs1 → W p l e R s m args below meth c H1 locs1 cells slots Q (F0 m (pc + 1) ls rest)) : W p l e R s m args below meth c H locs cells slots Q (F0 m pc ls (.int (bI v) :: .int (nI j) :: .ref a :: rest)) := by
  refine nzst hx hb hK hP hD hS q0 t0 ha ht j hj hn (bI v) (bI_vnar v) hdg ?_
  rw [updBI]
  exact kk
end FU
theorem bI_fit (b : Bool) : fits .boolean (.int (bI b)) = true := by cases b <;> decide
