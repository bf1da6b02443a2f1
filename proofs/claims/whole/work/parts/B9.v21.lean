/-! Words: bytes that never change, as lists. -/
def isWo (dA : Nat → ClassId) (ws : va_W) (a : Nat) (L : List Int32) : Prop := ∃ (b : Nat) (f : Nat → Int32), (a, .inr (10, [.ref b])) ∈ ws ∧ (b, .inl (dA 0, L.length, .inl f)) ∈ ws ∧ byteF f ∧ ∀ i, i < L.length → f i = L.getD i 0
theorem isWo_m {dA : Nat → ClassId} {ws ws' : va_W} {a : Nat} {L : List Int32} (hs : ∀ c, c ∈ ws → c ∈ ws') (h : isWo dA ws a L) : isWo dA ws' a L := by
  obtain ⟨b, f, h1, h2, h3, h4⟩ := h
  exact ⟨b, f, hs _ h1, hs _ h2, h3, h4⟩
/-- the bytes from a to before b -/
def seg (f : Nat → Int32) (a b : Nat) : List Int32 := (List.range (b - a)).map (fun i => f (a + i))
theorem seg_len (f : Nat → Int32) (a b : Nat) : (seg f a b).length = b - a := by unfold seg; rw [List.length_map, List.length_range]
theorem seg_get (f : Nat → Int32) {a b i : Nat} (h : i < b - a) : (seg f a b).getD i 0 = f (a + i) := by
  unfold seg
  rw [List.getD_eq_getElem?_getD, List.getElem?_map, List.getElem?_range h]
  rfl
theorem isWo_n {dA : Nat → ClassId} {ws : va_W} {pp bq n : Nat} {g : Nat → Int32} {L : List Int32} (m1 : (pp, .inr (10, [.ref bq])) ∈ ws) (m2 : (bq, .inl (dA 0, n, .inl g)) ∈ ws) (hb : byteF g) (hn : L.length = n) (h : ∀ i, i < n → g i = L.getD i 0) : isWo dA ws pp L := by
  subst hn
  exact ⟨bq, g, m1, m2, hb, h⟩
theorem byteF_cpy {f g : Nat → Int32} {a b n : Nat} (hf : byteF f) (hg : byteF g) : byteF (va_cpy f g a b n) := by
  intro q
  unfold va_cpy
  split
  · exact hf _
  · exact hg _
theorem byteF_0 : byteF (fun _ => 0) := fun _ => show (0 : Int32).toInt8.toInt32 = 0 by decide
theorem byteF_up {f : Nat → Int32} {k : Nat} {v : Int32} (hf : byteF f) (hv : v.toInt8.toInt32 = v) : byteF (va_up f k v) := by
  intro q
  unfold va_up
  split
  · exact hv
  · exact hf q
def smB (L M : List Int32) (i : Nat) : Bool := decide (L.getD i 0 = M.getD i 0)
def sameW (L M : List Int32) : Bool := decide (L.length = M.length) && allB L.length (smB L M)
def begW (L M : List Int32) : Bool := decide (M.length ≤ L.length) && allB M.length (smB L M)
def dfB (L M : List Int32) (i : Nat) : Bool := !decide (L.getD i 0 = M.getD i 0)
def cmpW (L M : List Int32) : Int32 := match frst (dfB L M) (min L.length M.length) 0 with
  | none => nI L.length - nI M.length
  | some i => (L.getD i 0 &&& 255) - (M.getD i 0 &&& 255)
theorem cmpW_n {L M : List Int32} (h : frst (dfB L M) (min L.length M.length) 0 = none) : cmpW L M = nI L.length - nI M.length := by unfold cmpW; rw [h]
theorem cmpW_s {L M : List Int32} {i : Nat} (h : frst (dfB L M) (min L.length M.length) 0 = some i) : cmpW L M = (L.getD i 0 &&& 255) - (M.getD i 0 &&& 255) := by unfold cmpW; rw [h]
theorem allB_1 {n k : Nat} {f : Nat → Bool} (h : k < n) (hf : f k = false) : allB n f = false := allB_f (k := k + 1) (by rw [allB_s, hf, Bool.and_false]) h
section CL
variable {p : Program} {l : Launch} {e : Env} {R : Room} {s : State} {m : MethodId} {args : Array Value} {below : List Frame} {meth : Method} {c : Code} {H : Heap} {locs : List Loc} {cells slots : Nat} {Q : State → Prop}
variable {D : va_G} {dA : Nat → ClassId} {A : Nat → Prop} {cc : ByteArray} {pc : Nat} {ls : Array Slot} {rest st0 : List Value} {ws : va_W} {a : Nat}
theorem nclnB (hexec : p.tables.exec = Jvm.exec) (hb : c.code = cc) (hml : c.maxLocals = ls.size) {own : String} {index : Nat} (hown : s.vm.findClass own = some m.cls) (hE : eV s)
    (hlink : Cond.methodLink own index ⟨"[B", "clone", "()Ljava/lang/Object;"⟩ ∈ aW) (hsame : Cond.sameMethod "[B" "java/lang/Object" "clone" "()Ljava/lang/Object;" ∈ aW) (hnat : Cond.native ⟨"java/lang/Object", "clone", "()Ljava/lang/Object;"⟩ ∈ aW) (hinst : Cond.instanceMethod ⟨"java/lang/Object", "clone", "()Ljava/lang/Object;"⟩ ∈ aW) (hsel : Cond.selects "[B" ⟨"[B", "clone", "()Ljava/lang/Object;"⟩ ⟨"java/lang/Object", "clone", "()Ljava/lang/Object;"⟩ ∈ aW) (hcl : Cond.castable "[B" "java/lang/Cloneable" ∈ aW)
    (hK : va_K D vwCl (arT dA) s) (hP : va_P D vwCl ws H) (hD : va_D A ws) (hS : va_S A s.heap H locs) (hA : ∀ q, s.heap.size ≤ q → A q) (q0 : Nat) {n : Nat} {f : Nat → Int32} (ha : ws[q0]? = some (a, .inl (dA 0, n, .inl f))) (hby : byteF f)
    (hframes : 1 ≤ R.frames) (hlocals : (rest.map fun v => v.category).sum + 14 ≤ R.locals) (hcells : cells + 1 ≤ R.cells) (hslots : slots + n ≤ R.slots) (hdg : decode cc pc = .ok (.invokevirtual index, 3))
    (kk : ∀ (q : Nat) (H1 : Heap), va_P D vwCl ((q, .inl (dA 0, n, .inl f)) :: ws) H1 → va_D A ((q, .inl (dA 0, n, .inl f)) :: ws) → va_S A s.heap H1 locs → W p l e R s m args below meth c H1 locs (cells + 1) (slots + n) Q (F0 m (pc + 3) ls (.ref q :: rest))) : W p l e R s m args below meth c H locs cells slots Q (F0 m pc ls (.ref a :: rest)) := by
  refine va_clone (x := (n, .inl f)) hexec hb hml hown (hE.t hlink rfl) (hE.t hsame rfl) (hE.t hnat rfl) (hE.t hinst rfl) (hE.t hsel rfl) (hE.1 _ hcl) hK hP hD hS hA q0 0 ha rfl (hK.2 0 _ rfl).2 ?_ hframes hlocals hcells hslots hdg (fun q H1 _ g1 g2 g3 => kk q H1 (frP g1) (frD g2) g3)
  intro i v hv
  have hi : i < n := by
    have h1 := (Array.getElem?_eq_some_iff.mp hv).1
    rw [vp_cell_i, arrV_size] at h1
    exact h1
  rw [vp_cell_i, arrV_read _ _ hi] at hv
  cases hv
  exact byte_fit hby _
theorem ncstB (hexec : p.tables.exec = Jvm.exec) (hb : c.code = cc) {own : String} {index : Nat} (hown : s.vm.findClass own = some m.cls) (hE : eV s) (hlink : Cond.classLink own index "[B" ∈ aW) (hK : va_K D vwCl (arT dA) s) (hP : va_P D vwCl ws H) (q0 : Nat) {x : vp_A} (ha : ws[q0]? = some (a, .inl (dA 0, x))) (hdg : decode cc pc = .ok (.checkcast index, 3))
    (k : W p l e R s m args below meth c H locs cells slots Q (F0 m (pc + 3) ls (.ref a :: rest))) : W p l e R s m args below meth c H locs cells slots Q (F0 m pc ls (.ref a :: rest)) :=
  va_castA hexec hb hown (hE.t hlink rfl) hP q0 ha (hK.2 0 _ rfl).2 hdg k
end CL
theorem d_Arrays_checkLength_0 : decode prog_38_method_131_code 0 = .ok (.iload_n 1, 1) := by decide +kernel
theorem d_Arrays_checkLength_1 : decode prog_38_method_131_code 1 = .ok (.iload_n 0, 1) := by decide +kernel
theorem d_Arrays_checkLength_2 : decode prog_38_method_131_code 2 = .ok (.if_icmp .ge 35, 3) := by decide +kernel
theorem d_Arrays_checkLength_37 : decode prog_38_method_131_code 37 = .ok (.return_, 1) := by decide +kernel
set_option maxHeartbeats 4000000 in
set_option maxRecDepth 100000 in
theorem v_checkLength (l : Launch) (D : va_G) (dA : Nat → ClassId) (sz : Nat) (a : Nat) (b : Nat) (h1 : a ≤ b) (h2 : b ≤ 131072) : Met l ⟨"java/util/Arrays", "checkLength", "(II)V"⟩ [Cond.code ⟨"java/util/Arrays", "checkLength", "(II)V"⟩ prog_38_method_131_code 2 none] { frames := 1, cells := 0, slots := 0, locals := 0 } (pC D dA [.int (nI a), .int (nI b)] ([]) sz) (va_Qv (fun (u9 : Unit) => True) (fun (u9 : Unit) t9 => bW D (va_A ([]) sz) ([]) t9) (va_A ([]) sz)) 0 0 (va_A ([]) sz) := by
  refine mkC (y := ⟨"java/util/Arrays", "checkLength", "(II)V"⟩) (cc := prog_38_method_131_code) (maxL := 2) (av := [.int (nI a), .int (nI b)]) (ws := []) (sz := sz) (Qc := fun A => va_Qv (fun (u9 : Unit) => True) (fun (u9 : Unit) t9 => bW D A ([]) t9) A) (by decide) (Nat.le_of_ble_eq_true rfl) ?_
  intro A p e s m below meth c ls hsz hB
  obtain ⟨hx, hb, hr, hml, hown, hin, hlk, hE, hK, hP, hD, hS, hA, hN, hl⟩ := hB
  have hown : s.vm.findClass "java/util/Arrays" = some m.cls := hown
  have hl : lv_has ls 2 [(0, .int (nI a)), (1, .int (nI b))] := hl
  obtain ⟨H, hH⟩ : ∃ z, z = s.heap := ⟨_, rfl⟩
  have hP : va_P D vwCl ([]) H := by rw [hH]; exact hP
  have hS : va_S A s.heap H [] := by rw [hH]; exact hS
  rw [← hH]
  refine lv_iload_n hx hb d_Arrays_checkLength_0 rfl (lv_at hl 1 rfl) ?_
  refine lv_iload_n hx hb d_Arrays_checkLength_1 rfl (lv_at hl 0 rfl) ?_
  refine lv_icmp_ge hx hb d_Arrays_checkLength_2 (tgt := 37) rfl (fun _ => ?_) (fun h9 => absurd ((nI_leI (a := a) (b := b) (by omega) (by omega)).mpr h1) h9)
  exact rfV hx hb hr hlk hS () trivial hP hD (Nat.le_of_ble_eq_true rfl) (Nat.le_of_ble_eq_true rfl) d_Arrays_checkLength_37
theorem d_Arrays_copyOfRangeByte_0 : decode prog_38_method_133_code 0 = .ok (.iload_n 1, 1) := by decide +kernel
theorem d_Arrays_copyOfRangeByte_1 : decode prog_38_method_133_code 1 = .ok (.iload_n 2, 1) := by decide +kernel
theorem d_Arrays_copyOfRangeByte_2 : decode prog_38_method_133_code 2 = .ok (.invokestatic 343, 3) := by decide +kernel
theorem d_Arrays_copyOfRangeByte_5 : decode prog_38_method_133_code 5 = .ok (.iload_n 2, 1) := by decide +kernel
theorem d_Arrays_copyOfRangeByte_6 : decode prog_38_method_133_code 6 = .ok (.iload_n 1, 1) := by decide +kernel
theorem d_Arrays_copyOfRangeByte_7 : decode prog_38_method_133_code 7 = .ok (.isub, 1) := by decide +kernel
theorem d_Arrays_copyOfRangeByte_8 : decode prog_38_method_133_code 8 = .ok (.istore_n 3, 1) := by decide +kernel
theorem d_Arrays_copyOfRangeByte_9 : decode prog_38_method_133_code 9 = .ok (.iload_n 3, 1) := by decide +kernel
theorem d_Arrays_copyOfRangeByte_10 : decode prog_38_method_133_code 10 = .ok (.newarray .byte, 2) := by decide +kernel
theorem d_Arrays_copyOfRangeByte_12 : decode prog_38_method_133_code 12 = .ok (.astore 4, 2) := by decide +kernel
theorem d_Arrays_copyOfRangeByte_14 : decode prog_38_method_133_code 14 = .ok (.aload_n 0, 1) := by decide +kernel
theorem d_Arrays_copyOfRangeByte_15 : decode prog_38_method_133_code 15 = .ok (.iload_n 1, 1) := by decide +kernel
theorem d_Arrays_copyOfRangeByte_16 : decode prog_38_method_133_code 16 = .ok (.aload 4, 2) := by decide +kernel
theorem d_Arrays_copyOfRangeByte_18 : decode prog_38_method_133_code 18 = .ok (.iconst 0, 1) := by decide +kernel
theorem d_Arrays_copyOfRangeByte_19 : decode prog_38_method_133_code 19 = .ok (.aload_n 0, 1) := by decide +kernel
theorem d_Arrays_copyOfRangeByte_20 : decode prog_38_method_133_code 20 = .ok (.arraylength, 1) := by decide +kernel
theorem d_Arrays_copyOfRangeByte_21 : decode prog_38_method_133_code 21 = .ok (.iload_n 1, 1) := by decide +kernel
theorem d_Arrays_copyOfRangeByte_22 : decode prog_38_method_133_code 22 = .ok (.isub, 1) := by decide +kernel
theorem d_Arrays_copyOfRangeByte_23 : decode prog_38_method_133_code 23 = .ok (.iload_n 3, 1) := by decide +kernel
theorem d_Arrays_copyOfRangeByte_24 : decode prog_38_method_133_code 24 = .ok (.invokestatic 304, 3) := by decide +kernel
theorem d_Arrays_copyOfRangeByte_27 : decode prog_38_method_133_code 27 = .ok (.invokestatic 150, 3) := by decide +kernel
theorem d_Arrays_copyOfRangeByte_30 : decode prog_38_method_133_code 30 = .ok (.aload 4, 2) := by decide +kernel
theorem d_Arrays_copyOfRangeByte_32 : decode prog_38_method_133_code 32 = .ok (.areturn, 1) := by decide +kernel
theorem w1257 : Cond.methodLink "java/util/Arrays" 343 ⟨"java/util/Arrays", "checkLength", "(II)V"⟩ ∈ aW := aw_of (tb_3 (List.mem_of_getElem? (i := 238) rfl)) rfl
theorem w1258 : Cond.code ⟨"java/util/Arrays", "checkLength", "(II)V"⟩ prog_38_method_131_code 2 none ∈ aW := aw_of (tb_4 (List.mem_of_getElem? (i := 0) rfl)) rfl
theorem w1259 : Cond.static ⟨"java/util/Arrays", "checkLength", "(II)V"⟩ ∈ aW := aw_of (tb_3 (List.mem_of_getElem? (i := 239) rfl)) rfl
set_option maxHeartbeats 4000000 in
set_option maxRecDepth 100000 in
theorem v_copyRB (l : Launch) (D : va_G) (dA : Nat → ClassId) (sz : Nat) (ws : va_W) (arr : Nat) (n : Nat) (f : Nat → Int32) (a : Nat) (b : Nat) (m1 : (arr, .inl (dA 0, n, .inl f)) ∈ ws) (hby : byteF f) (h1 : a ≤ b) (h2 : b ≤ n) (h3 : n ≤ 131072) : Met l ⟨"java/util/Arrays", "copyOfRangeByte", "([BII)[B"⟩ [Cond.code ⟨"java/util/Arrays", "copyOfRangeByte", "([BII)[B"⟩ prog_38_method_133_code 5 (some (FieldType.array FieldType.byte))] { frames := 2, cells := 1, slots := b - a, locals := 40 } (pC D dA [.ref arr, .int (nI a), .int (nI b)] (ws) sz) (va_Qr (fun (_ : (Nat → Int32)) => True) (fun (u9 : (Nat → Int32)) (r9 : Nat) t9 => (byteF u9 ∧ ∀ i, i < b - a → u9 i = f (a + i)) ∧ bW D (va_A (ws) sz) ([(r9, .inl (dA 0, b - a, .inl u9))] ++ (ws)) t9) (va_A (ws) sz)) 1 (b - a) (va_A (ws) sz) := by
  refine mkC (y := ⟨"java/util/Arrays", "copyOfRangeByte", "([BII)[B"⟩) (cc := prog_38_method_133_code) (maxL := 5) (av := [.ref arr, .int (nI a), .int (nI b)]) (ws := ws) (sz := sz) (Qc := fun A => va_Qr (fun (_ : (Nat → Int32)) => True) (fun (u9 : (Nat → Int32)) (r9 : Nat) t9 => (byteF u9 ∧ ∀ i, i < b - a → u9 i = f (a + i)) ∧ bW D A ([(r9, .inl (dA 0, b - a, .inl u9))] ++ (ws)) t9) A) (by decide) (Nat.le_of_ble_eq_true rfl) ?_
  intro A p e s m below meth c ls hsz hB
  obtain ⟨hx, hb, hr, hml, hown, hin, hlk, hE, hK, hP, hD, hS, hA, hN, hl⟩ := hB
  have hown : s.vm.findClass "java/util/Arrays" = some m.cls := hown
  have hl : lv_has ls 5 [(0, .ref arr), (1, .int (nI a)), (2, .int (nI b))] := hl
  obtain ⟨H, hH⟩ : ∃ z, z = s.heap := ⟨_, rfl⟩
  have hP : va_P D vwCl (ws) H := by rw [hH]; exact hP
  have hS : va_S A s.heap H [] := by rw [hH]; exact hS
  rw [← hH]
  refine lv_iload_n hx hb d_Arrays_copyOfRangeByte_0 rfl (lv_at hl 1 rfl) ?_
  refine lv_iload_n hx hb d_Arrays_copyOfRangeByte_1 rfl (lv_at hl 2 rfl) ?_
  have hPc := hP.sub (ws' := []) [] rfl
  have hDc := hD.sub (ws' := []) [] (by decide) rfl
  refine jpV (rnS (As := [.int (nI a), .int (nI b)]) (rest := []) hx hb hml hown hE hK (hN _ _ hS) hPc hDc (v_checkLength l D dA H.size a b (show a ≤ b from by omega) (show b ≤ 131072 from by omega)) w1258 w1257 w1259 w712 rfl rfl ⟨⟨by decide, by decide⟩, rfl⟩ ⟨(Nat.le_of_ble_eq_true rfl), (Nat.le_of_ble_eq_true rfl)⟩ rfl hl.1 rfl (Nat.le_of_ble_eq_true rfl) d_Arrays_copyOfRangeByte_2 ⟨(show 0 + 0 ≤ 1 by omega), (show 0 + 0 ≤ b - a by omega)⟩) hP hD hS hA (fun u9 H locs hp9 hP hD hS => ?_)
  have hP : va_P D vwCl (ws) H := hP
  have hD : va_D A (ws) := hD
  refine lv_iload_n hx hb d_Arrays_copyOfRangeByte_5 rfl (lv_at hl 2 rfl) ?_
  refine lv_iload_n hx hb d_Arrays_copyOfRangeByte_6 rfl (lv_at hl 1 rfl) ?_
  refine lv_isub hx hb d_Arrays_copyOfRangeByte_7 (tpi (y := nI (b - a)) (pk_sub (a := b) (b := a) (by omega)) ?_)
  refine lv_istore_n hx hb d_Arrays_copyOfRangeByte_8 rfl hl (by decide) rfl (fun ls hl => ?_)
  have hl : lv_has ls 5 [(3, .int (nI (b - a))), (0, .ref arr), (1, .int (nI a)), (2, .int (nI b))] := hl
  refine lv_iload_n hx hb d_Arrays_copyOfRangeByte_9 rfl (lv_at hl 0 rfl) ?_
  refine nnA (atype := .byte) (ty := .byte) (N' := b - a) (a0 := (b - a, .inl (fun _ => 0))) hx hb hE rfl w496 hK hP hD hS hA 0 rfl (fun _ => rfl) (by omega) (show (b - a) * 1 ≤ 536870912 by omega) (show (0 + 0) + 1 ≤ 1 by omega) (show (0 + 0) + (b - a) ≤ b - a by omega) d_Arrays_copyOfRangeByte_10 (fun q3 H hP hD hS => ?_)
  have hP : va_P D vwCl ([(q3, .inl (dA 0, b - a, .inl (fun _ => 0)))] ++ (ws)) H := hP
  have hD : va_D A ([(q3, .inl (dA 0, b - a, .inl (fun _ => 0)))] ++ (ws)) := hD
  refine lv_astore hx hb d_Arrays_copyOfRangeByte_12 hl (by decide) rfl (fun ls hl => ?_)
  have hl : lv_has ls 5 [(4, .ref q3), (3, .int (nI (b - a))), (0, .ref arr), (1, .int (nI a)), (2, .int (nI b))] := hl
  refine lv_aload_n hx hb d_Arrays_copyOfRangeByte_14 rfl (lv_at hl 2 rfl) ?_
  refine lv_iload_n hx hb d_Arrays_copyOfRangeByte_15 rfl (lv_at hl 3 rfl) ?_
  refine lv_aload hx hb d_Arrays_copyOfRangeByte_16 (lv_at hl 0 rfl) ?_
  refine lv_iconst (v := 0) hx hb d_Arrays_copyOfRangeByte_18 (by decide) ?_
  refine lv_aload_n hx hb d_Arrays_copyOfRangeByte_19 rfl (lv_at hl 2 rfl) ?_
  obtain ⟨qp4, ep5⟩ := List.getElem?_of_mem (show ((arr, .inl (dA 0, n, .inl f)) : Nat × va_E) ∈ [(q3, .inl (dA 0, b - a, .inl (fun _ => 0)))] ++ (ws) from (List.mem_append_right _ m1))
  refine va_alen (v := nI n) hx hb hK hP (qp4) 0 ep5 rfl rfl d_Arrays_copyOfRangeByte_20 ?_
  refine lv_iload_n hx hb d_Arrays_copyOfRangeByte_21 rfl (lv_at hl 3 rfl) ?_
  refine lv_isub hx hb d_Arrays_copyOfRangeByte_22 (tpi (y := nI (n - a)) (pk_sub (a := n) (b := a) (by omega)) ?_)
  refine lv_iload_n hx hb d_Arrays_copyOfRangeByte_23 rfl (lv_at hl 1 rfl) ?_
  refine va_mmin hx hb (hml.trans hl.1.symm) hown (hE.t w1109 rfl) (hE.t w548 rfl) (hE.t w549 rfl) (hE.t w550 rfl) (Nat.le_of_ble_eq_true rfl) (Nat.le_of_ble_eq_true rfl) (show 0 + 0 + 1 ≤ 1 by omega) (show 0 + 0 + (b - a) ≤ b - a by omega) d_Arrays_copyOfRangeByte_24 (tpi (y := nI (min (n - a) (b - a))) (nI_min (a := n - a) (b := b - a) (by omega) (by omega)) ?_)
  obtain ⟨qp6, ep7⟩ := List.getElem?_of_mem (show ((arr, .inl (dA 0, n, .inl f)) : Nat × va_E) ∈ [(q3, .inl (dA 0, b - a, .inl (fun _ => 0)))] ++ (ws) from (List.mem_append_right _ m1))
  refine ncpyi (f := f) (g := (fun _ => 0)) (n0 := n) (n1 := b - a) hx hb (hml.trans hl.1.symm) hown (hE.t w1110 rfl) (hE.t w720 rfl) (hE.t w721 rfl) (hE.t w722 rfl) hK hP hD hS (qp6) (0) 0 ep7 rfl rfl rfl (a) (0) (min (n - a) (b - a)) (by omega) (by omega) (by omega) (by omega) (by omega) (fun _ _ => byte_fit hby _) (Nat.le_of_ble_eq_true rfl) (Nat.le_of_ble_eq_true rfl) d_Arrays_copyOfRangeByte_27 (fun H locs hP hD hS => ?_)
  have hP : va_P D vwCl ([(q3, .inl (dA 0, b - a, .inl (va_cpy f (fun _ => 0) a 0 (min (n - a) (b - a)))))] ++ (ws)) H := hP
  have hD : va_D A ([(q3, .inl (dA 0, b - a, .inl (va_cpy f (fun _ => 0) a 0 (min (n - a) (b - a)))))] ++ (ws)) := hD
  refine lv_aload hx hb d_Arrays_copyOfRangeByte_30 (lv_at hl 0 rfl) ?_
  exact rkR hx hb hr (Or.inr ⟨_, rfl⟩) hlk hS (va_cpy f (fun _ => 0) a 0 (min (n - a) (b - a))) ⟨byteF_cpy hby byteF_0, fun i hi => by unfold va_cpy; rw [if_pos (by omega), Nat.sub_zero]⟩ hP hD (show 0 + 0 + 1 ≤ 1 by omega) (show 0 + 0 + (b - a) ≤ b - a by omega) d_Arrays_copyOfRangeByte_32
theorem d_Arrays_copyOfRange_0 : decode prog_38_method_132_code 0 = .ok (.iload_n 1, 1) := by decide +kernel
theorem d_Arrays_copyOfRange_1 : decode prog_38_method_132_code 1 = .ok (.ifCond .ne 9, 3) := by decide +kernel
theorem d_Arrays_copyOfRange_10 : decode prog_38_method_132_code 10 = .ok (.aload_n 0, 1) := by decide +kernel
theorem d_Arrays_copyOfRange_11 : decode prog_38_method_132_code 11 = .ok (.iload_n 1, 1) := by decide +kernel
theorem d_Arrays_copyOfRange_12 : decode prog_38_method_132_code 12 = .ok (.iload_n 2, 1) := by decide +kernel
theorem d_Arrays_copyOfRange_13 : decode prog_38_method_132_code 13 = .ok (.invokestatic 339, 3) := by decide +kernel
theorem d_Arrays_copyOfRange_16 : decode prog_38_method_132_code 16 = .ok (.areturn, 1) := by decide +kernel
theorem d_Arrays_copyOfRange_4 : decode prog_38_method_132_code 4 = .ok (.iload_n 2, 1) := by decide +kernel
theorem d_Arrays_copyOfRange_5 : decode prog_38_method_132_code 5 = .ok (.aload_n 0, 1) := by decide +kernel
theorem d_Arrays_copyOfRange_6 : decode prog_38_method_132_code 6 = .ok (.arraylength, 1) := by decide +kernel
theorem d_Arrays_copyOfRange_7 : decode prog_38_method_132_code 7 = .ok (.if_icmp .eq 10, 3) := by decide +kernel
theorem d_Arrays_copyOfRange_17 : decode prog_38_method_132_code 17 = .ok (.aload_n 0, 1) := by decide +kernel
theorem d_Arrays_copyOfRange_18 : decode prog_38_method_132_code 18 = .ok (.invokevirtual 310, 3) := by decide +kernel
theorem d_Arrays_copyOfRange_21 : decode prog_38_method_132_code 21 = .ok (.checkcast 311, 3) := by decide +kernel
theorem d_Arrays_copyOfRange_24 : decode prog_38_method_132_code 24 = .ok (.areturn, 1) := by decide +kernel
theorem w1260 : Cond.methodLink "java/util/Arrays" 339 ⟨"java/util/Arrays", "copyOfRangeByte", "([BII)[B"⟩ ∈ aW := aw_of (tb_3 (List.mem_of_getElem? (i := 235) rfl)) rfl
theorem w1261 : Cond.code ⟨"java/util/Arrays", "copyOfRangeByte", "([BII)[B"⟩ prog_38_method_133_code 5 (some (FieldType.array FieldType.byte)) ∈ aW := aw_of (tb_3 (List.mem_of_getElem? (i := 237) rfl)) rfl
theorem w1262 : Cond.static ⟨"java/util/Arrays", "copyOfRangeByte", "([BII)[B"⟩ ∈ aW := aw_of (tb_3 (List.mem_of_getElem? (i := 236) rfl)) rfl
theorem w1263 : Cond.methodLink "java/util/Arrays" 310 ⟨"[B", "clone", "()Ljava/lang/Object;"⟩ ∈ aW := aw_of (tb_3 (List.mem_of_getElem? (i := 124) rfl)) rfl
theorem w1264 : Cond.sameMethod "[B" "java/lang/Object" "clone" "()Ljava/lang/Object;" ∈ aW := aw_of (tb_3 (List.mem_of_getElem? (i := 125) rfl)) rfl
theorem w1265 : Cond.native ⟨"java/lang/Object", "clone", "()Ljava/lang/Object;"⟩ ∈ aW := aw_of (tb_3 (List.mem_of_getElem? (i := 126) rfl)) rfl
theorem w1266 : Cond.instanceMethod ⟨"java/lang/Object", "clone", "()Ljava/lang/Object;"⟩ ∈ aW := aw_of (tb_3 (List.mem_of_getElem? (i := 127) rfl)) rfl
theorem w1267 : Cond.selects "[B" ⟨"[B", "clone", "()Ljava/lang/Object;"⟩ ⟨"java/lang/Object", "clone", "()Ljava/lang/Object;"⟩ ∈ aW := aw_of (tb_3 (List.mem_of_getElem? (i := 128) rfl)) rfl
theorem w1268 : Cond.castable "[B" "java/lang/Cloneable" ∈ aW := aw_of (tb_3 (List.mem_of_getElem? (i := 129) rfl)) rfl
theorem w1269 : Cond.classLink "java/util/Arrays" 311 "[B" ∈ aW := aw_of (tb_3 (List.mem_of_getElem? (i := 130) rfl)) rfl
set_option maxHeartbeats 4000000 in
set_option maxRecDepth 100000 in
theorem v_copyR (l : Launch) (D : va_G) (dA : Nat → ClassId) (sz : Nat) (ws : va_W) (arr : Nat) (n : Nat) (f : Nat → Int32) (a : Nat) (b : Nat) (m1 : (arr, .inl (dA 0, n, .inl f)) ∈ ws) (hby : byteF f) (h1 : a ≤ b) (h2 : b ≤ n) (h3 : n ≤ 131072) : Met l ⟨"java/util/Arrays", "copyOfRange", "([BII)[B"⟩ [Cond.code ⟨"java/util/Arrays", "copyOfRange", "([BII)[B"⟩ prog_38_method_132_code 3 (some (FieldType.array FieldType.byte))] { frames := 3, cells := 1, slots := b - a, locals := 64 } (pC D dA [.ref arr, .int (nI a), .int (nI b)] (ws) sz) (va_Qr (fun (_ : (Nat → Int32)) => True) (fun (u9 : (Nat → Int32)) (r9 : Nat) t9 => (byteF u9 ∧ ∀ i, i < b - a → u9 i = f (a + i)) ∧ bW D (va_A (ws) sz) ([(r9, .inl (dA 0, b - a, .inl u9))] ++ (ws)) t9) (va_A (ws) sz)) 1 (b - a) (va_A (ws) sz) := by
  refine mkC (y := ⟨"java/util/Arrays", "copyOfRange", "([BII)[B"⟩) (cc := prog_38_method_132_code) (maxL := 3) (av := [.ref arr, .int (nI a), .int (nI b)]) (ws := ws) (sz := sz) (Qc := fun A => va_Qr (fun (_ : (Nat → Int32)) => True) (fun (u9 : (Nat → Int32)) (r9 : Nat) t9 => (byteF u9 ∧ ∀ i, i < b - a → u9 i = f (a + i)) ∧ bW D A ([(r9, .inl (dA 0, b - a, .inl u9))] ++ (ws)) t9) A) (by decide) (Nat.le_of_ble_eq_true rfl) ?_
  intro A p e s m below meth c ls hsz hB
  obtain ⟨hx, hb, hr, hml, hown, hin, hlk, hE, hK, hP, hD, hS, hA, hN, hl⟩ := hB
  have hown : s.vm.findClass "java/util/Arrays" = some m.cls := hown
  have hl : lv_has ls 3 [(0, .ref arr), (1, .int (nI a)), (2, .int (nI b))] := hl
  obtain ⟨H, hH⟩ : ∃ z, z = s.heap := ⟨_, rfl⟩
  have hP : va_P D vwCl (ws) H := by rw [hH]; exact hP
  have hS : va_S A s.heap H [] := by rw [hH]; exact hS
  rw [← hH]
  refine lv_iload_n hx hb d_Arrays_copyOfRange_0 rfl (lv_at hl 1 rfl) ?_
  refine lv_if_ne hx hb d_Arrays_copyOfRange_1 (tgt := 10) rfl (fun g1 => ?_) (fun g1 => ?_)
  · have g1 := mt (nI_eq (a := a) (b := 0) (by omega) (by decide)).mpr g1
    refine lv_aload_n hx hb d_Arrays_copyOfRange_10 rfl (lv_at hl 0 rfl) ?_
    refine lv_iload_n hx hb d_Arrays_copyOfRange_11 rfl (lv_at hl 1 rfl) ?_
    refine lv_iload_n hx hb d_Arrays_copyOfRange_12 rfl (lv_at hl 2 rfl) ?_
    refine jkR (wr := []) (rnS (As := [.ref arr, .int (nI a), .int (nI b)]) (rest := []) hx hb hml hown hE hK (hN _ _ hS) hP hD (v_copyRB l D dA H.size ws arr n f a b m1 hby (show a ≤ b from by omega) (show b ≤ n from by omega) (show n ≤ 131072 from by omega)) w1261 w1260 w1262 w712 rfl rfl ⟨⟨by decide, by decide⟩, rfl⟩ ⟨(Nat.le_of_ble_eq_true rfl), (Nat.le_of_ble_eq_true rfl)⟩ rfl hl.1 rfl (Nat.le_of_ble_eq_true rfl) d_Arrays_copyOfRange_13 ⟨(show 0 + 1 ≤ 1 by omega), (show 0 + (b - a) ≤ b - a by omega)⟩) hP hD hS hA (fun u3 r2 H locs hp9 hP hD hS => ?_)
    obtain ⟨g4, h9u⟩ : ∃ z9, z9 = u3 := ⟨_, rfl⟩
    subst h9u
    have hP : va_P D vwCl ([(r2, .inl (dA 0, b - a, .inl g4))] ++ (ws)) H := hP
    have hD : va_D A ([(r2, .inl (dA 0, b - a, .inl g4))] ++ (ws)) := hD
    obtain ⟨f_y_5, f_hg_6⟩ := hp9
    exact rkR hx hb hr (Or.inr ⟨_, rfl⟩) hlk hS g4 ⟨f_y_5, f_hg_6⟩ hP hD (show 0 + 1 ≤ 1 by omega) (show 0 + (b - a) ≤ b - a by omega) d_Arrays_copyOfRange_16
  · have g1 := (nI_eq (a := a) (b := 0) (by omega) (by decide)).mp g1
    refine lv_iload_n hx hb d_Arrays_copyOfRange_4 rfl (lv_at hl 2 rfl) ?_
    refine lv_aload_n hx hb d_Arrays_copyOfRange_5 rfl (lv_at hl 0 rfl) ?_
    obtain ⟨qp7, ep8⟩ := List.getElem?_of_mem (show ((arr, .inl (dA 0, n, .inl f)) : Nat × va_E) ∈ ws from m1)
    refine va_alen (v := nI n) hx hb hK hP (qp7) 0 ep8 rfl rfl d_Arrays_copyOfRange_6 ?_
    refine lv_icmp_eq hx hb d_Arrays_copyOfRange_7 (tgt := 17) rfl (fun g9 => ?_) (fun g9 => ?_)
    · have g9 := (nI_eq (a := b) (b := n) (by omega) (by omega)).mp g9
      have e0 : a = 0 := g1
      have e1 : b = n := g9
      have e2 : n = b - a := by omega
      refine lv_aload_n hx hb d_Arrays_copyOfRange_17 rfl (lv_at hl 0 rfl) ?_
      obtain ⟨qp10, ep11⟩ := List.getElem?_of_mem (show ((arr, .inl (dA 0, n, .inl f)) : Nat × va_E) ∈ ws from m1)
      refine nclnB hx hb (hml.trans hl.1.symm) hown hE w1263 w1264 w1265 w1266 w1267 w1268 hK hP hD hS hA (qp10) ep11 hby (Nat.le_of_ble_eq_true rfl) (Nat.le_of_ble_eq_true rfl) (show 0 + 1 ≤ 1 by omega) (show 0 + n ≤ b - a by omega) d_Arrays_copyOfRange_18 (fun q12 H hP hD hS => ?_)
      have hP : va_P D vwCl ([(q12, .inl (dA 0, n, .inl f))] ++ (ws)) H := hP
      have hD : va_D A ([(q12, .inl (dA 0, n, .inl f))] ++ (ws)) := hD
      refine ncstB hx hb hown hE w1269 hK hP (0) rfl d_Arrays_copyOfRange_21 ?_
      rw [e2] at hP hD
      exact rkR hx hb hr (Or.inr ⟨_, rfl⟩) hlk hS f ⟨hby, fun i hi => by rw [e0, Nat.zero_add]⟩ hP hD (show 0 + 1 ≤ 1 by omega) (show 0 + n ≤ b - a by omega) d_Arrays_copyOfRange_24
    · have g9 := mt (nI_eq (a := b) (b := n) (by omega) (by omega)).mpr g9
      refine lv_aload_n hx hb d_Arrays_copyOfRange_10 rfl (lv_at hl 0 rfl) ?_
      refine lv_iload_n hx hb d_Arrays_copyOfRange_11 rfl (lv_at hl 1 rfl) ?_
      refine lv_iload_n hx hb d_Arrays_copyOfRange_12 rfl (lv_at hl 2 rfl) ?_
      refine jkR (wr := []) (rnS (As := [.ref arr, .int (nI a), .int (nI b)]) (rest := []) hx hb hml hown hE hK (hN _ _ hS) hP hD (v_copyRB l D dA H.size ws arr n f a b m1 hby (show a ≤ b from by omega) (show b ≤ n from by omega) (show n ≤ 131072 from by omega)) w1261 w1260 w1262 w712 rfl rfl ⟨⟨by decide, by decide⟩, rfl⟩ ⟨(Nat.le_of_ble_eq_true rfl), (Nat.le_of_ble_eq_true rfl)⟩ rfl hl.1 rfl (Nat.le_of_ble_eq_true rfl) d_Arrays_copyOfRange_13 ⟨(show 0 + 1 ≤ 1 by omega), (show 0 + (b - a) ≤ b - a by omega)⟩) hP hD hS hA (fun u14 r13 H locs hp9 hP hD hS => ?_)
      obtain ⟨g15, h9u⟩ : ∃ z9, z9 = u14 := ⟨_, rfl⟩
      subst h9u
      have hP : va_P D vwCl ([(r13, .inl (dA 0, b - a, .inl g15))] ++ (ws)) H := hP
      have hD : va_D A ([(r13, .inl (dA 0, b - a, .inl g15))] ++ (ws)) := hD
      obtain ⟨f_y_16, f_hg_17⟩ := hp9
      exact rkR hx hb hr (Or.inr ⟨_, rfl⟩) hlk hS g15 ⟨f_y_16, f_hg_17⟩ hP hD (show 0 + 1 ≤ 1 by omega) (show 0 + (b - a) ≤ b - a by omega) d_Arrays_copyOfRange_16
theorem d_W_init_0 : decode prog_12_method_1_code 0 = .ok (.aload_n 0, 1) := by decide +kernel
theorem d_W_init_1 : decode prog_12_method_1_code 1 = .ok (.invokespecial 3, 3) := by decide +kernel
theorem d_W_init_4 : decode prog_12_method_1_code 4 = .ok (.aload_n 0, 1) := by decide +kernel
theorem d_W_init_5 : decode prog_12_method_1_code 5 = .ok (.aload_n 1, 1) := by decide +kernel
theorem d_W_init_6 : decode prog_12_method_1_code 6 = .ok (.iload_n 2, 1) := by decide +kernel
theorem d_W_init_7 : decode prog_12_method_1_code 7 = .ok (.iload_n 3, 1) := by decide +kernel
theorem d_W_init_8 : decode prog_12_method_1_code 8 = .ok (.invokestatic 9, 3) := by decide +kernel
theorem d_W_init_11 : decode prog_12_method_1_code 11 = .ok (.putfield 15, 3) := by decide +kernel
theorem d_W_init_14 : decode prog_12_method_1_code 14 = .ok (.return_, 1) := by decide +kernel
theorem w1270 : Cond.methodLink "SeriesVault$Word" 3 ⟨"java/lang/Object", "<init>", "()V"⟩ ∈ aW := aw_of (tb_3 (List.mem_of_getElem? (i := 231) rfl)) rfl
theorem w1271 : Cond.methodLink "SeriesVault$Word" 9 ⟨"java/util/Arrays", "copyOfRange", "([BII)[B"⟩ ∈ aW := aw_of (tb_3 (List.mem_of_getElem? (i := 232) rfl)) rfl
theorem w1272 : Cond.code ⟨"java/util/Arrays", "copyOfRange", "([BII)[B"⟩ prog_38_method_132_code 3 (some (FieldType.array FieldType.byte)) ∈ aW := aw_of (tb_3 (List.mem_of_getElem? (i := 234) rfl)) rfl
theorem w1273 : Cond.static ⟨"java/util/Arrays", "copyOfRange", "([BII)[B"⟩ ∈ aW := aw_of (tb_3 (List.mem_of_getElem? (i := 233) rfl)) rfl
theorem w1274 : Cond.fieldLink "SeriesVault$Word" 15 "SeriesVault$Word" "bytes" "[B" ∈ aW := aw_of (tb_4 (List.mem_of_getElem? (i := 219) rfl)) rfl
set_option maxHeartbeats 4000000 in
set_option maxRecDepth 100000 in
theorem v_Winit (l : Launch) (D : va_G) (dA : Nat → ClassId) (sz : Nat) (ws : va_W) (pp : Nat) (arr : Nat) (n : Nat) (f : Nat → Int32) (a : Nat) (b : Nat) (m1 : (arr, .inl (dA 0, n, .inl f)) ∈ ws) (hby : byteF f) (h1 : a ≤ b) (h2 : b ≤ n) (h3 : n ≤ 131072) : Met l ⟨"SeriesVault$Word", "<init>", "([BII)V"⟩ [Cond.code ⟨"SeriesVault$Word", "<init>", "([BII)V"⟩ prog_12_method_1_code 4 none] { frames := 4, cells := 1, slots := b - a, locals := 86 } (pC D dA [.ref pp, .ref arr, .int (nI a), .int (nI b)] ([(pp, .inr (10, [.null]))] ++ (ws)) sz) (va_Qv (fun (u9 : Nat × (Nat → Int32)) => byteF u9.2 ∧ ∀ i, i < b - a → u9.2 i = f (a + i)) (fun (u9 : Nat × (Nat → Int32)) t9 => bW D (va_A ([(pp, .inr (10, [.null]))] ++ (ws)) sz) ([(u9.1, .inl (dA 0, b - a, .inl u9.2))] ++ ([(pp, .inr (10, [.ref u9.1]))] ++ (ws))) t9) (va_A ([(pp, .inr (10, [.null]))] ++ (ws)) sz)) 1 (b - a) (va_A ([(pp, .inr (10, [.null]))] ++ (ws)) sz) := by
  refine mkC (y := ⟨"SeriesVault$Word", "<init>", "([BII)V"⟩) (cc := prog_12_method_1_code) (maxL := 4) (av := [.ref pp, .ref arr, .int (nI a), .int (nI b)]) (ws := [(pp, .inr (10, [.null]))] ++ (ws)) (sz := sz) (Qc := fun A => va_Qv (fun (u9 : Nat × (Nat → Int32)) => byteF u9.2 ∧ ∀ i, i < b - a → u9.2 i = f (a + i)) (fun (u9 : Nat × (Nat → Int32)) t9 => bW D A ([(u9.1, .inl (dA 0, b - a, .inl u9.2))] ++ ([(pp, .inr (10, [.ref u9.1]))] ++ (ws))) t9) A) (by decide) (Nat.le_of_ble_eq_true rfl) ?_
  intro A p e s m below meth c ls hsz hB
  obtain ⟨hx, hb, hr, hml, hown, hin, hlk, hE, hK, hP, hD, hS, hA, hN, hl⟩ := hB
  have hown : s.vm.findClass "SeriesVault$Word" = some m.cls := hown
  have hl : lv_has ls 4 [(0, .ref pp), (1, .ref arr), (2, .int (nI a)), (3, .int (nI b))] := hl
  obtain ⟨H, hH⟩ : ∃ z, z = s.heap := ⟨_, rfl⟩
  have hP : va_P D vwCl ([(pp, .inr (10, [.null]))] ++ (ws)) H := by rw [hH]; exact hP
  have hS : va_S A s.heap H [] := by rw [hH]; exact hS
  rw [← hH]
  refine lv_aload_n hx hb d_W_init_0 rfl (lv_at hl 0 rfl) ?_
  refine oI hx hb hown hE w1270 w182 w183 (hl.1.trans hml.symm) d_W_init_1 (Nat.le_of_ble_eq_true rfl) (Nat.le_of_ble_eq_true rfl) ?_
  refine lv_aload_n hx hb d_W_init_4 rfl (lv_at hl 0 rfl) ?_
  refine lv_aload_n hx hb d_W_init_5 rfl (lv_at hl 1 rfl) ?_
  refine lv_iload_n hx hb d_W_init_6 rfl (lv_at hl 2 rfl) ?_
  refine lv_iload_n hx hb d_W_init_7 rfl (lv_at hl 3 rfl) ?_
  refine jkR (wr := []) (rnS (As := [.ref arr, .int (nI a), .int (nI b)]) (rest := [.ref pp]) hx hb hml hown hE hK (hN _ _ hS) hP hD (v_copyR l D dA H.size ([(pp, .inr (10, [.null]))] ++ (ws)) arr n f a b (List.mem_append_right _ m1) hby (show a ≤ b from by omega) (show b ≤ n from by omega) (show n ≤ 131072 from by omega)) w1272 w1271 w1273 w712 rfl rfl ⟨⟨by decide, by decide⟩, rfl⟩ ⟨(Nat.le_of_ble_eq_true rfl), (Nat.le_of_ble_eq_true rfl)⟩ rfl hl.1 rfl (Nat.le_of_ble_eq_true rfl) d_W_init_8 ⟨(show 0 + 1 ≤ 1 by omega), (show 0 + (b - a) ≤ b - a by omega)⟩) hP hD hS hA (fun u2 r1 H locs hp9 hP hD hS => ?_)
  obtain ⟨g3, h9u⟩ : ∃ z9, z9 = u2 := ⟨_, rfl⟩
  subst h9u
  have hP : va_P D vwCl ([(r1, .inl (dA 0, b - a, .inl g3))] ++ ([(pp, .inr (10, [.null]))] ++ (ws))) H := hP
  have hD : va_D A ([(r1, .inl (dA 0, b - a, .inl g3))] ++ ([(pp, .inr (10, [.null]))] ++ (ws))) := hD
  obtain ⟨f_y_4, f_hg_5⟩ := hp9
  refine pFF (v := .ref r1) hx hb hown hE hK hP hD hS 1 rfl rfl layW tyW tokW nmW 0 (by decide) w1274 rfl hin rfl rfl rfl (Nat.le_of_ble_eq_true rfl) d_W_init_11 (fun H locs hP hD hS => ?_)
  have hP : va_P D vwCl ([(r1, .inl (dA 0, b - a, .inl g3))] ++ ([(pp, .inr (10, [.ref r1]))] ++ (ws))) H := hP
  have hD : va_D A ([(r1, .inl (dA 0, b - a, .inl g3))] ++ ([(pp, .inr (10, [.ref r1]))] ++ (ws))) := hD
  exact rfV hx hb hr hlk hS (⟨r1, g3⟩) ⟨f_y_4, f_hg_5⟩ hP hD (show 0 + 1 ≤ 1 by omega) (show 0 + (b - a) ≤ b - a by omega) d_W_init_14
theorem d_W_at_0 : decode prog_12_method_2_code 0 = .ok (.iload_n 1, 1) := by decide +kernel
theorem d_W_at_1 : decode prog_12_method_2_code 1 = .ok (.ifCond .lt 12, 3) := by decide +kernel
theorem d_W_at_13 : decode prog_12_method_2_code 13 = .ok (.iconst (-1), 1) := by decide +kernel
theorem d_W_at_14 : decode prog_12_method_2_code 14 = .ok (.goto 13, 3) := by decide +kernel
theorem d_W_at_27 : decode prog_12_method_2_code 27 = .ok (.ireturn, 1) := by decide +kernel
theorem d_W_at_4 : decode prog_12_method_2_code 4 = .ok (.iload_n 1, 1) := by decide +kernel
theorem d_W_at_5 : decode prog_12_method_2_code 5 = .ok (.aload_n 0, 1) := by decide +kernel
theorem d_W_at_6 : decode prog_12_method_2_code 6 = .ok (.getfield 15, 3) := by decide +kernel
theorem d_W_at_9 : decode prog_12_method_2_code 9 = .ok (.arraylength, 1) := by decide +kernel
theorem d_W_at_10 : decode prog_12_method_2_code 10 = .ok (.if_icmp .lt 7, 3) := by decide +kernel
set_option maxHeartbeats 4000000 in
set_option maxRecDepth 100000 in
theorem v_Wat_n (l : Launch) (D : va_G) (dA : Nat → ClassId) (sz : Nat) (ws : va_W) (wa : Nat) (L : List Int32) (k : Int32) (hwwa : isWo dA ws wa L) (hlwa : L.length ≤ 65536) (h0 : k < 0 ∨ nI L.length ≤ k) : Met l ⟨"SeriesVault$Word", "at", "(I)I"⟩ [Cond.code ⟨"SeriesVault$Word", "at", "(I)I"⟩ prog_12_method_2_code 2 (some FieldType.int)] { frames := 1, cells := 0, slots := 0, locals := 0 } (pC D dA [.ref wa, .int k] (ws) sz) (va_Qi (fun (r9 : Int32) (u9 : Unit) => r9 = (-1)) (fun (u9 : Unit) t9 => bW D (va_A (ws) sz) (ws) t9) (va_A (ws) sz)) 0 0 (va_A (ws) sz) := by
  refine mkC (y := ⟨"SeriesVault$Word", "at", "(I)I"⟩) (cc := prog_12_method_2_code) (maxL := 2) (av := [.ref wa, .int k]) (ws := ws) (sz := sz) (Qc := fun A => va_Qi (fun (r9 : Int32) (u9 : Unit) => r9 = (-1)) (fun (u9 : Unit) t9 => bW D A (ws) t9) A) (by decide) (Nat.le_of_ble_eq_true rfl) ?_
  intro A p e s m below meth c ls hsz hB
  obtain ⟨hx, hb, hr, hml, hown, hin, hlk, hE, hK, hP, hD, hS, hA, hN, hl⟩ := hB
  have hown : s.vm.findClass "SeriesVault$Word" = some m.cls := hown
  have hl : lv_has ls 2 [(0, .ref wa), (1, .int k)] := hl
  obtain ⟨H, hH⟩ : ∃ z, z = s.heap := ⟨_, rfl⟩
  have hP : va_P D vwCl (ws) H := by rw [hH]; exact hP
  have hS : va_S A s.heap H [] := by rw [hH]; exact hS
  rw [← hH]
  obtain ⟨b_wa, f_wa, m1wa, m2wa, y_wa, hfwa⟩ := hwwa
  refine lv_iload_n hx hb d_W_at_0 rfl (lv_at hl 1 rfl) ?_
  refine lv_if_lt hx hb d_W_at_1 (tgt := 13) rfl (fun g1 => ?_) (fun g1 => ?_)
  · have g1 := g1
    refine lv_iconst (v := (-1)) hx hb d_W_at_13 (by decide) ?_
    refine lv_goto hx hb d_W_at_14 (tgt := 27) rfl ?_
    exact rfI hx hb hr hlk hS () rfl hP hD (Nat.le_of_ble_eq_true rfl) (Nat.le_of_ble_eq_true rfl) d_W_at_27
  · have g1 := g1
    refine lv_iload_n hx hb d_W_at_4 rfl (lv_at hl 1 rfl) ?_
    refine lv_aload_n hx hb d_W_at_5 rfl (lv_at hl 0 rfl) ?_
    obtain ⟨qp2, ep3⟩ := List.getElem?_of_mem (show ((wa, .inr (10, [.ref b_wa])) : Nat × va_E) ∈ ws from m1wa)
    refine gF (v := .ref b_wa) hx hb hown hE hK hP qp2 ep3 rfl layW 0 (by decide) w1274 rfl d_W_at_6 ?_
    obtain ⟨qp4, ep5⟩ := List.getElem?_of_mem (show ((b_wa, .inl (dA 0, L.length, .inl f_wa)) : Nat × va_E) ∈ ws from m2wa)
    refine va_alen (v := nI L.length) hx hb hK hP (qp4) 0 ep5 rfl rfl d_W_at_9 ?_
    refine lv_icmp_lt hx hb d_W_at_10 (tgt := 17) rfl (fun h9 => absurd h9 (Int32.not_lt.mpr (h0.resolve_left g1))) (fun _ => ?_)
    refine lv_iconst (v := (-1)) hx hb d_W_at_13 (by decide) ?_
    refine lv_goto hx hb d_W_at_14 (tgt := 27) rfl ?_
    exact rfI hx hb hr hlk hS () rfl hP hD (Nat.le_of_ble_eq_true rfl) (Nat.le_of_ble_eq_true rfl) d_W_at_27
theorem d_W_at_17 : decode prog_12_method_2_code 17 = .ok (.aload_n 0, 1) := by decide +kernel
theorem d_W_at_18 : decode prog_12_method_2_code 18 = .ok (.getfield 15, 3) := by decide +kernel
theorem d_W_at_21 : decode prog_12_method_2_code 21 = .ok (.iload_n 1, 1) := by decide +kernel
theorem d_W_at_22 : decode prog_12_method_2_code 22 = .ok (.baload, 1) := by decide +kernel
theorem d_W_at_23 : decode prog_12_method_2_code 23 = .ok (.sipush 255, 3) := by decide +kernel
theorem d_W_at_26 : decode prog_12_method_2_code 26 = .ok (.iand, 1) := by decide +kernel
set_option maxHeartbeats 4000000 in
set_option maxRecDepth 100000 in
theorem v_Wat (l : Launch) (D : va_G) (dA : Nat → ClassId) (sz : Nat) (ws : va_W) (wa : Nat) (L : List Int32) (k : Nat) (hwwa : isWo dA ws wa L) (hlwa : L.length ≤ 65536) (hk : k < L.length) : Met l ⟨"SeriesVault$Word", "at", "(I)I"⟩ [Cond.code ⟨"SeriesVault$Word", "at", "(I)I"⟩ prog_12_method_2_code 2 (some FieldType.int)] { frames := 1, cells := 0, slots := 0, locals := 0 } (pC D dA [.ref wa, .int (nI k)] (ws) sz) (va_Qi (fun (r9 : Int32) (u9 : Unit) => r9 = L.getD k 0 &&& 255) (fun (u9 : Unit) t9 => bW D (va_A (ws) sz) (ws) t9) (va_A (ws) sz)) 0 0 (va_A (ws) sz) := by
  refine mkC (y := ⟨"SeriesVault$Word", "at", "(I)I"⟩) (cc := prog_12_method_2_code) (maxL := 2) (av := [.ref wa, .int (nI k)]) (ws := ws) (sz := sz) (Qc := fun A => va_Qi (fun (r9 : Int32) (u9 : Unit) => r9 = L.getD k 0 &&& 255) (fun (u9 : Unit) t9 => bW D A (ws) t9) A) (by decide) (Nat.le_of_ble_eq_true rfl) ?_
  intro A p e s m below meth c ls hsz hB
  obtain ⟨hx, hb, hr, hml, hown, hin, hlk, hE, hK, hP, hD, hS, hA, hN, hl⟩ := hB
  have hown : s.vm.findClass "SeriesVault$Word" = some m.cls := hown
  have hl : lv_has ls 2 [(0, .ref wa), (1, .int (nI k))] := hl
  obtain ⟨H, hH⟩ : ∃ z, z = s.heap := ⟨_, rfl⟩
  have hP : va_P D vwCl (ws) H := by rw [hH]; exact hP
  have hS : va_S A s.heap H [] := by rw [hH]; exact hS
  rw [← hH]
  obtain ⟨b_wa, f_wa, m1wa, m2wa, y_wa, hfwa⟩ := hwwa
  refine lv_iload_n hx hb d_W_at_0 rfl (lv_at hl 1 rfl) ?_
  refine lv_if_lt hx hb d_W_at_1 (tgt := 13) rfl (fun h9 => absurd h9 (nI_pos (n := k) (by omega))) (fun _ => ?_)
  refine lv_iload_n hx hb d_W_at_4 rfl (lv_at hl 1 rfl) ?_
  refine lv_aload_n hx hb d_W_at_5 rfl (lv_at hl 0 rfl) ?_
  obtain ⟨qp1, ep2⟩ := List.getElem?_of_mem (show ((wa, .inr (10, [.ref b_wa])) : Nat × va_E) ∈ ws from m1wa)
  refine gF (v := .ref b_wa) hx hb hown hE hK hP qp1 ep2 rfl layW 0 (by decide) w1274 rfl d_W_at_6 ?_
  obtain ⟨qp3, ep4⟩ := List.getElem?_of_mem (show ((b_wa, .inl (dA 0, L.length, .inl f_wa)) : Nat × va_E) ∈ ws from m2wa)
  refine va_alen (v := nI L.length) hx hb hK hP (qp3) 0 ep4 rfl rfl d_W_at_9 ?_
  refine lv_icmp_lt hx hb d_W_at_10 (tgt := 17) rfl (fun _ => ?_) (fun h9 => absurd ((nI_ltI (a := k) (b := L.length) (by omega) (by omega)).mpr hk) h9)
  refine lv_aload_n hx hb d_W_at_17 rfl (lv_at hl 0 rfl) ?_
  obtain ⟨qp5, ep6⟩ := List.getElem?_of_mem (show ((wa, .inr (10, [.ref b_wa])) : Nat × va_E) ∈ ws from m1wa)
  refine gF (v := .ref b_wa) hx hb hown hE hK hP qp5 ep6 rfl layW 0 (by decide) w1274 rfl d_W_at_18 ?_
  refine lv_iload_n hx hb d_W_at_21 rfl (lv_at hl 1 rfl) ?_
  obtain ⟨qp7, ep8⟩ := List.getElem?_of_mem (show ((b_wa, .inl (dA 0, L.length, .inl f_wa)) : Nat × va_E) ∈ ws from m2wa)
  refine nbld (f := f_wa) (n := L.length) hx hb hK hP (qp7) 0 ep8 rfl (k) (by omega) (by omega) d_W_at_22 ?_
  refine tpi (y := (L.getD k 0)) (hfwa k hk) ?_
  refine lv_sipush (v := 255) hx hb d_W_at_23 (by decide) ?_
  refine lv_iand hx hb d_W_at_26 ?_
  exact rfI hx hb hr hlk hS () rfl hP hD (Nat.le_of_ble_eq_true rfl) (Nat.le_of_ble_eq_true rfl) d_W_at_27
theorem d_W_same_0 : decode prog_12_method_4_code 0 = .ok (.aload_n 0, 1) := by decide +kernel
theorem d_W_same_1 : decode prog_12_method_4_code 1 = .ok (.getfield 15, 3) := by decide +kernel
theorem d_W_same_4 : decode prog_12_method_4_code 4 = .ok (.arraylength, 1) := by decide +kernel
theorem d_W_same_5 : decode prog_12_method_4_code 5 = .ok (.aload_n 1, 1) := by decide +kernel
theorem d_W_same_6 : decode prog_12_method_4_code 6 = .ok (.getfield 15, 3) := by decide +kernel
theorem d_W_same_9 : decode prog_12_method_4_code 9 = .ok (.arraylength, 1) := by decide +kernel
theorem d_W_same_10 : decode prog_12_method_4_code 10 = .ok (.if_icmp .eq 5, 3) := by decide +kernel
theorem d_W_same_15 : decode prog_12_method_4_code 15 = .ok (.iconst 0, 1) := by decide +kernel
theorem d_W_same_16 : decode prog_12_method_4_code 16 = .ok (.istore_n 2, 1) := by decide +kernel
theorem d_W_same_17 : decode prog_12_method_4_code 17 = .ok (.iload_n 2, 1) := by decide +kernel
theorem d_W_same_18 : decode prog_12_method_4_code 18 = .ok (.aload_n 0, 1) := by decide +kernel
theorem d_W_same_19 : decode prog_12_method_4_code 19 = .ok (.getfield 15, 3) := by decide +kernel
theorem d_W_same_22 : decode prog_12_method_4_code 22 = .ok (.arraylength, 1) := by decide +kernel
theorem d_W_same_23 : decode prog_12_method_4_code 23 = .ok (.if_icmp .ge 26, 3) := by decide +kernel
theorem d_W_same_49 : decode prog_12_method_4_code 49 = .ok (.iconst 1, 1) := by decide +kernel
theorem d_W_same_50 : decode prog_12_method_4_code 50 = .ok (.ireturn, 1) := by decide +kernel
theorem d_W_same_26 : decode prog_12_method_4_code 26 = .ok (.aload_n 0, 1) := by decide +kernel
theorem d_W_same_27 : decode prog_12_method_4_code 27 = .ok (.getfield 15, 3) := by decide +kernel
theorem d_W_same_30 : decode prog_12_method_4_code 30 = .ok (.iload_n 2, 1) := by decide +kernel
theorem d_W_same_31 : decode prog_12_method_4_code 31 = .ok (.baload, 1) := by decide +kernel
theorem d_W_same_32 : decode prog_12_method_4_code 32 = .ok (.aload_n 1, 1) := by decide +kernel
theorem d_W_same_33 : decode prog_12_method_4_code 33 = .ok (.getfield 15, 3) := by decide +kernel
theorem d_W_same_36 : decode prog_12_method_4_code 36 = .ok (.iload_n 2, 1) := by decide +kernel
theorem d_W_same_37 : decode prog_12_method_4_code 37 = .ok (.baload, 1) := by decide +kernel
theorem d_W_same_38 : decode prog_12_method_4_code 38 = .ok (.if_icmp .eq 5, 3) := by decide +kernel
theorem d_W_same_43 : decode prog_12_method_4_code 43 = .ok (.iinc 2 1, 3) := by decide +kernel
theorem d_W_same_46 : decode prog_12_method_4_code 46 = .ok (.goto (-29), 3) := by decide +kernel
theorem d_W_same_41 : decode prog_12_method_4_code 41 = .ok (.iconst 0, 1) := by decide +kernel
theorem d_W_same_42 : decode prog_12_method_4_code 42 = .ok (.ireturn, 1) := by decide +kernel
theorem d_W_same_13 : decode prog_12_method_4_code 13 = .ok (.iconst 0, 1) := by decide +kernel
theorem d_W_same_14 : decode prog_12_method_4_code 14 = .ok (.ireturn, 1) := by decide +kernel
set_option maxHeartbeats 4000000 in
set_option maxRecDepth 100000 in
theorem v_Wsame (l : Launch) (D : va_G) (dA : Nat → ClassId) (sz : Nat) (ws : va_W) (wa : Nat) (L : List Int32) (wb : Nat) (M : List Int32) (hwwa : isWo dA ws wa L) (hlwa : L.length ≤ 65536) (hwwb : isWo dA ws wb M) (hlwb : M.length ≤ 65536) : Met l ⟨"SeriesVault$Word", "same", "(LSeriesVault$Word;)Z"⟩ [Cond.code ⟨"SeriesVault$Word", "same", "(LSeriesVault$Word;)Z"⟩ prog_12_method_4_code 3 (some FieldType.boolean)] { frames := 1, cells := 0, slots := 0, locals := 0 } (pC D dA [.ref wa, .ref wb] (ws) sz) (va_Qi (fun (r9 : Int32) (u9 : Unit) => r9 = bI (sameW L M)) (fun (u9 : Unit) t9 => bW D (va_A (ws) sz) (ws) t9) (va_A (ws) sz)) 0 0 (va_A (ws) sz) := by
  refine mkC (y := ⟨"SeriesVault$Word", "same", "(LSeriesVault$Word;)Z"⟩) (cc := prog_12_method_4_code) (maxL := 3) (av := [.ref wa, .ref wb]) (ws := ws) (sz := sz) (Qc := fun A => va_Qi (fun (r9 : Int32) (u9 : Unit) => r9 = bI (sameW L M)) (fun (u9 : Unit) t9 => bW D A (ws) t9) A) (by decide) (Nat.le_of_ble_eq_true rfl) ?_
  intro A p e s m below meth c ls hsz hB
  obtain ⟨hx, hb, hr, hml, hown, hin, hlk, hE, hK, hP, hD, hS, hA, hN, hl⟩ := hB
  have hown : s.vm.findClass "SeriesVault$Word" = some m.cls := hown
  have hl : lv_has ls 3 [(0, .ref wa), (1, .ref wb)] := hl
  obtain ⟨H, hH⟩ : ∃ z, z = s.heap := ⟨_, rfl⟩
  have hP : va_P D vwCl (ws) H := by rw [hH]; exact hP
  have hS : va_S A s.heap H [] := by rw [hH]; exact hS
  rw [← hH]
  obtain ⟨b_wa, f_wa, m1wa, m2wa, y_wa, hfwa⟩ := hwwa
  obtain ⟨b_wb, f_wb, m1wb, m2wb, y_wb, hfwb⟩ := hwwb
  refine lv_aload_n hx hb d_W_same_0 rfl (lv_at hl 0 rfl) ?_
  obtain ⟨qp1, ep2⟩ := List.getElem?_of_mem (show ((wa, .inr (10, [.ref b_wa])) : Nat × va_E) ∈ ws from m1wa)
  refine gF (v := .ref b_wa) hx hb hown hE hK hP qp1 ep2 rfl layW 0 (by decide) w1274 rfl d_W_same_1 ?_
  obtain ⟨qp3, ep4⟩ := List.getElem?_of_mem (show ((b_wa, .inl (dA 0, L.length, .inl f_wa)) : Nat × va_E) ∈ ws from m2wa)
  refine va_alen (v := nI L.length) hx hb hK hP (qp3) 0 ep4 rfl rfl d_W_same_4 ?_
  refine lv_aload_n hx hb d_W_same_5 rfl (lv_at hl 1 rfl) ?_
  obtain ⟨qp5, ep6⟩ := List.getElem?_of_mem (show ((wb, .inr (10, [.ref b_wb])) : Nat × va_E) ∈ ws from m1wb)
  refine gF (v := .ref b_wb) hx hb hown hE hK hP qp5 ep6 rfl layW 0 (by decide) w1274 rfl d_W_same_6 ?_
  obtain ⟨qp7, ep8⟩ := List.getElem?_of_mem (show ((b_wb, .inl (dA 0, M.length, .inl f_wb)) : Nat × va_E) ∈ ws from m2wb)
  refine va_alen (v := nI M.length) hx hb hK hP (qp7) 0 ep8 rfl rfl d_W_same_9 ?_
  refine lv_icmp_eq hx hb d_W_same_10 (tgt := 15) rfl (fun g9 => ?_) (fun g9 => ?_)
  · have g9 := (nI_eq (a := L.length) (b := M.length) (by omega) (by omega)).mp g9
    refine lv_iconst (v := 0) hx hb d_W_same_15 (by decide) ?_
    refine lv_istore_n hx hb d_W_same_16 rfl hl (by decide) rfl (fun ls hl => ?_)
    have hl : lv_has ls 3 [(2, .int 0), (0, .ref wa), (1, .ref wb)] := hl
    have L17 : ∀ (k9 : Nat) (i : Nat) (i1 : i ≤ L.length) (i2 : allB i (smB L M) = true) (hk9 : L.length - i = k9), ∀ (H : Heap) (locs : List Loc) (ls : Array Slot) (hP : va_P D vwCl (ws) H) (hD : va_D A (ws)) (hS : va_S A s.heap H locs) (hl : lv_has ls 3 [(2, .int (nI i)), (0, .ref wa), (1, .ref wb)]), W p l e ({ frames := 1, cells := 0, slots := 0, locals := 0 } : Room) s m ([.ref wa, .ref wb] : List Value).toArray below meth c H locs 0 0 (MQ below (va_Qi (fun (r9 : Int32) (u9 : Unit) => r9 = bI (sameW L M)) (fun (u9 : Unit) t9 => bW D A (ws) t9) A) ([.ref wa, .ref wb] : List Value).toArray s 0 0 A) (F0 m 17 ls []) := by
      intro k9
      induction k9 using Nat.strongRecOn with
      | ind k9 ih17 =>
        intro i i1 i2 hk9 H locs ls hP hD hS hl
        refine lv_iload_n hx hb d_W_same_17 rfl (lv_at hl 0 rfl) ?_
        refine lv_aload_n hx hb d_W_same_18 rfl (lv_at hl 1 rfl) ?_
        obtain ⟨qp10, ep11⟩ := List.getElem?_of_mem (show ((wa, .inr (10, [.ref b_wa])) : Nat × va_E) ∈ ws from m1wa)
        refine gF (v := .ref b_wa) hx hb hown hE hK hP qp10 ep11 rfl layW 0 (by decide) w1274 rfl d_W_same_19 ?_
        obtain ⟨qp12, ep13⟩ := List.getElem?_of_mem (show ((b_wa, .inl (dA 0, L.length, .inl f_wa)) : Nat × va_E) ∈ ws from m2wa)
        refine va_alen (v := nI L.length) hx hb hK hP (qp12) 0 ep13 rfl rfl d_W_same_22 ?_
        refine lv_icmp_ge hx hb d_W_same_23 (tgt := 49) rfl (fun g14 => ?_) (fun g14 => ?_)
        · have g14 := (nI_leI (a := L.length) (b := i) (by omega) (by omega)).mp g14
          refine lv_iconst (v := 1) hx hb d_W_same_49 (by decide) ?_
          exact rfZ hx hb hr (bI_nar true) hlk hS () (by unfold sameW; rw [decide_eq_true (by omega), Bool.true_and, ← show i = L.length by omega, i2]; rfl) hP hD (Nat.le_of_ble_eq_true rfl) (Nat.le_of_ble_eq_true rfl) d_W_same_50
        · have g14 := mt (nI_leI (a := L.length) (b := i) (by omega) (by omega)).mpr g14
          refine lv_aload_n hx hb d_W_same_26 rfl (lv_at hl 1 rfl) ?_
          obtain ⟨qp15, ep16⟩ := List.getElem?_of_mem (show ((wa, .inr (10, [.ref b_wa])) : Nat × va_E) ∈ ws from m1wa)
          refine gF (v := .ref b_wa) hx hb hown hE hK hP qp15 ep16 rfl layW 0 (by decide) w1274 rfl d_W_same_27 ?_
          refine lv_iload_n hx hb d_W_same_30 rfl (lv_at hl 0 rfl) ?_
          obtain ⟨qp17, ep18⟩ := List.getElem?_of_mem (show ((b_wa, .inl (dA 0, L.length, .inl f_wa)) : Nat × va_E) ∈ ws from m2wa)
          refine nbld (f := f_wa) (n := L.length) hx hb hK hP (qp17) 0 ep18 rfl (i) (by omega) (by omega) d_W_same_31 ?_
          refine tpi (y := (L.getD i 0)) (hfwa i (by omega)) ?_
          refine lv_aload_n hx hb d_W_same_32 rfl (lv_at hl 2 rfl) ?_
          obtain ⟨qp19, ep20⟩ := List.getElem?_of_mem (show ((wb, .inr (10, [.ref b_wb])) : Nat × va_E) ∈ ws from m1wb)
          refine gF (v := .ref b_wb) hx hb hown hE hK hP qp19 ep20 rfl layW 0 (by decide) w1274 rfl d_W_same_33 ?_
          refine lv_iload_n hx hb d_W_same_36 rfl (lv_at hl 0 rfl) ?_
          obtain ⟨qp21, ep22⟩ := List.getElem?_of_mem (show ((b_wb, .inl (dA 0, M.length, .inl f_wb)) : Nat × va_E) ∈ ws from m2wb)
          refine nbld (f := f_wb) (n := M.length) hx hb hK hP (qp21) 0 ep22 rfl (i) (by omega) (by omega) d_W_same_37 ?_
          refine tpi (y := (M.getD i 0)) (hfwb i (by omega)) ?_
          refine lv_icmp_eq hx hb d_W_same_38 (tgt := 43) rfl (fun g23 => ?_) (fun g23 => ?_)
          · have g23 := g23
            refine lv_iinc (k := 0) (v := nI (i + 1)) hx hb d_W_same_43 hl rfl (iincN (i) 1 1 (by decide)) (by decide) rfl (fun ls hl => ?_)
            have hl : lv_has ls 3 [(2, .int (nI (i + 1))), (0, .ref wa), (1, .ref wb)] := hl
            refine lv_goto hx hb d_W_same_46 (tgt := 17) rfl ?_
            exact ih17 _ (by omega) (i + 1) (by omega) (by rw [allB_s, i2, Bool.true_and]; exact decide_eq_true g23) rfl H _ ls hP hD hS (lv_sub hl [0, 1, 2] rfl)
          · have g23 := g23
            refine lv_iconst (v := 0) hx hb d_W_same_41 (by decide) ?_
            exact rfZ hx hb hr (bI_nar false) hlk hS () (by unfold sameW; rw [allB_1 (f := smB L M) (k := i) (n := L.length) (by omega) (decide_eq_false g23), Bool.and_false]; rfl) hP hD (Nat.le_of_ble_eq_true rfl) (Nat.le_of_ble_eq_true rfl) d_W_same_42
    exact L17 _ 0 (Nat.zero_le _) rfl rfl H _ ls hP hD hS (lv_sub hl [0, 1, 2] rfl)
  · have g9 := mt (nI_eq (a := L.length) (b := M.length) (by omega) (by omega)).mpr g9
    refine lv_iconst (v := 0) hx hb d_W_same_13 (by decide) ?_
    exact rfZ hx hb hr (bI_nar false) hlk hS () (by unfold sameW; rw [decide_eq_false g9]; rfl) hP hD (Nat.le_of_ble_eq_true rfl) (Nat.le_of_ble_eq_true rfl) d_W_same_14
theorem d_W_beginsWith_0 : decode prog_12_method_5_code 0 = .ok (.aload_n 1, 1) := by decide +kernel
theorem d_W_beginsWith_1 : decode prog_12_method_5_code 1 = .ok (.getfield 15, 3) := by decide +kernel
theorem d_W_beginsWith_4 : decode prog_12_method_5_code 4 = .ok (.arraylength, 1) := by decide +kernel
theorem d_W_beginsWith_5 : decode prog_12_method_5_code 5 = .ok (.aload_n 0, 1) := by decide +kernel
theorem d_W_beginsWith_6 : decode prog_12_method_5_code 6 = .ok (.getfield 15, 3) := by decide +kernel
theorem d_W_beginsWith_9 : decode prog_12_method_5_code 9 = .ok (.arraylength, 1) := by decide +kernel
theorem d_W_beginsWith_10 : decode prog_12_method_5_code 10 = .ok (.if_icmp .le 5, 3) := by decide +kernel
theorem d_W_beginsWith_15 : decode prog_12_method_5_code 15 = .ok (.iconst 0, 1) := by decide +kernel
theorem d_W_beginsWith_16 : decode prog_12_method_5_code 16 = .ok (.istore_n 2, 1) := by decide +kernel
theorem d_W_beginsWith_17 : decode prog_12_method_5_code 17 = .ok (.iload_n 2, 1) := by decide +kernel
theorem d_W_beginsWith_18 : decode prog_12_method_5_code 18 = .ok (.aload_n 1, 1) := by decide +kernel
theorem d_W_beginsWith_19 : decode prog_12_method_5_code 19 = .ok (.getfield 15, 3) := by decide +kernel
theorem d_W_beginsWith_22 : decode prog_12_method_5_code 22 = .ok (.arraylength, 1) := by decide +kernel
theorem d_W_beginsWith_23 : decode prog_12_method_5_code 23 = .ok (.if_icmp .ge 26, 3) := by decide +kernel
theorem d_W_beginsWith_49 : decode prog_12_method_5_code 49 = .ok (.iconst 1, 1) := by decide +kernel
theorem d_W_beginsWith_50 : decode prog_12_method_5_code 50 = .ok (.ireturn, 1) := by decide +kernel
theorem d_W_beginsWith_26 : decode prog_12_method_5_code 26 = .ok (.aload_n 0, 1) := by decide +kernel
theorem d_W_beginsWith_27 : decode prog_12_method_5_code 27 = .ok (.getfield 15, 3) := by decide +kernel
theorem d_W_beginsWith_30 : decode prog_12_method_5_code 30 = .ok (.iload_n 2, 1) := by decide +kernel
theorem d_W_beginsWith_31 : decode prog_12_method_5_code 31 = .ok (.baload, 1) := by decide +kernel
theorem d_W_beginsWith_32 : decode prog_12_method_5_code 32 = .ok (.aload_n 1, 1) := by decide +kernel
theorem d_W_beginsWith_33 : decode prog_12_method_5_code 33 = .ok (.getfield 15, 3) := by decide +kernel
theorem d_W_beginsWith_36 : decode prog_12_method_5_code 36 = .ok (.iload_n 2, 1) := by decide +kernel
theorem d_W_beginsWith_37 : decode prog_12_method_5_code 37 = .ok (.baload, 1) := by decide +kernel
theorem d_W_beginsWith_38 : decode prog_12_method_5_code 38 = .ok (.if_icmp .eq 5, 3) := by decide +kernel
theorem d_W_beginsWith_43 : decode prog_12_method_5_code 43 = .ok (.iinc 2 1, 3) := by decide +kernel
theorem d_W_beginsWith_46 : decode prog_12_method_5_code 46 = .ok (.goto (-29), 3) := by decide +kernel
theorem d_W_beginsWith_41 : decode prog_12_method_5_code 41 = .ok (.iconst 0, 1) := by decide +kernel
theorem d_W_beginsWith_42 : decode prog_12_method_5_code 42 = .ok (.ireturn, 1) := by decide +kernel
theorem d_W_beginsWith_13 : decode prog_12_method_5_code 13 = .ok (.iconst 0, 1) := by decide +kernel
theorem d_W_beginsWith_14 : decode prog_12_method_5_code 14 = .ok (.ireturn, 1) := by decide +kernel
set_option maxHeartbeats 4000000 in
set_option maxRecDepth 100000 in
theorem v_Wbegs (l : Launch) (D : va_G) (dA : Nat → ClassId) (sz : Nat) (ws : va_W) (wa : Nat) (L : List Int32) (wb : Nat) (M : List Int32) (hwwa : isWo dA ws wa L) (hlwa : L.length ≤ 65536) (hwwb : isWo dA ws wb M) (hlwb : M.length ≤ 65536) : Met l ⟨"SeriesVault$Word", "beginsWith", "(LSeriesVault$Word;)Z"⟩ [Cond.code ⟨"SeriesVault$Word", "beginsWith", "(LSeriesVault$Word;)Z"⟩ prog_12_method_5_code 3 (some FieldType.boolean)] { frames := 1, cells := 0, slots := 0, locals := 0 } (pC D dA [.ref wa, .ref wb] (ws) sz) (va_Qi (fun (r9 : Int32) (u9 : Unit) => r9 = bI (begW L M)) (fun (u9 : Unit) t9 => bW D (va_A (ws) sz) (ws) t9) (va_A (ws) sz)) 0 0 (va_A (ws) sz) := by
  refine mkC (y := ⟨"SeriesVault$Word", "beginsWith", "(LSeriesVault$Word;)Z"⟩) (cc := prog_12_method_5_code) (maxL := 3) (av := [.ref wa, .ref wb]) (ws := ws) (sz := sz) (Qc := fun A => va_Qi (fun (r9 : Int32) (u9 : Unit) => r9 = bI (begW L M)) (fun (u9 : Unit) t9 => bW D A (ws) t9) A) (by decide) (Nat.le_of_ble_eq_true rfl) ?_
  intro A p e s m below meth c ls hsz hB
  obtain ⟨hx, hb, hr, hml, hown, hin, hlk, hE, hK, hP, hD, hS, hA, hN, hl⟩ := hB
  have hown : s.vm.findClass "SeriesVault$Word" = some m.cls := hown
  have hl : lv_has ls 3 [(0, .ref wa), (1, .ref wb)] := hl
  obtain ⟨H, hH⟩ : ∃ z, z = s.heap := ⟨_, rfl⟩
  have hP : va_P D vwCl (ws) H := by rw [hH]; exact hP
  have hS : va_S A s.heap H [] := by rw [hH]; exact hS
  rw [← hH]
  obtain ⟨b_wa, f_wa, m1wa, m2wa, y_wa, hfwa⟩ := hwwa
  obtain ⟨b_wb, f_wb, m1wb, m2wb, y_wb, hfwb⟩ := hwwb
  refine lv_aload_n hx hb d_W_beginsWith_0 rfl (lv_at hl 1 rfl) ?_
  obtain ⟨qp1, ep2⟩ := List.getElem?_of_mem (show ((wb, .inr (10, [.ref b_wb])) : Nat × va_E) ∈ ws from m1wb)
  refine gF (v := .ref b_wb) hx hb hown hE hK hP qp1 ep2 rfl layW 0 (by decide) w1274 rfl d_W_beginsWith_1 ?_
  obtain ⟨qp3, ep4⟩ := List.getElem?_of_mem (show ((b_wb, .inl (dA 0, M.length, .inl f_wb)) : Nat × va_E) ∈ ws from m2wb)
  refine va_alen (v := nI M.length) hx hb hK hP (qp3) 0 ep4 rfl rfl d_W_beginsWith_4 ?_
  refine lv_aload_n hx hb d_W_beginsWith_5 rfl (lv_at hl 0 rfl) ?_
  obtain ⟨qp5, ep6⟩ := List.getElem?_of_mem (show ((wa, .inr (10, [.ref b_wa])) : Nat × va_E) ∈ ws from m1wa)
  refine gF (v := .ref b_wa) hx hb hown hE hK hP qp5 ep6 rfl layW 0 (by decide) w1274 rfl d_W_beginsWith_6 ?_
  obtain ⟨qp7, ep8⟩ := List.getElem?_of_mem (show ((b_wa, .inl (dA 0, L.length, .inl f_wa)) : Nat × va_E) ∈ ws from m2wa)
  refine va_alen (v := nI L.length) hx hb hK hP (qp7) 0 ep8 rfl rfl d_W_beginsWith_9 ?_
  refine lv_icmp_le hx hb d_W_beginsWith_10 (tgt := 15) rfl (fun g9 => ?_) (fun g9 => ?_)
  · have g9 := (nI_leI (a := M.length) (b := L.length) (by omega) (by omega)).mp g9
    refine lv_iconst (v := 0) hx hb d_W_beginsWith_15 (by decide) ?_
    refine lv_istore_n hx hb d_W_beginsWith_16 rfl hl (by decide) rfl (fun ls hl => ?_)
    have hl : lv_has ls 3 [(2, .int 0), (0, .ref wa), (1, .ref wb)] := hl
    have L17 : ∀ (k9 : Nat) (i : Nat) (i1 : i ≤ M.length) (i2 : allB i (smB L M) = true) (hk9 : M.length - i = k9), ∀ (H : Heap) (locs : List Loc) (ls : Array Slot) (hP : va_P D vwCl (ws) H) (hD : va_D A (ws)) (hS : va_S A s.heap H locs) (hl : lv_has ls 3 [(2, .int (nI i)), (0, .ref wa), (1, .ref wb)]), W p l e ({ frames := 1, cells := 0, slots := 0, locals := 0 } : Room) s m ([.ref wa, .ref wb] : List Value).toArray below meth c H locs 0 0 (MQ below (va_Qi (fun (r9 : Int32) (u9 : Unit) => r9 = bI (begW L M)) (fun (u9 : Unit) t9 => bW D A (ws) t9) A) ([.ref wa, .ref wb] : List Value).toArray s 0 0 A) (F0 m 17 ls []) := by
      intro k9
      induction k9 using Nat.strongRecOn with
      | ind k9 ih17 =>
        intro i i1 i2 hk9 H locs ls hP hD hS hl
        refine lv_iload_n hx hb d_W_beginsWith_17 rfl (lv_at hl 0 rfl) ?_
        refine lv_aload_n hx hb d_W_beginsWith_18 rfl (lv_at hl 2 rfl) ?_
        obtain ⟨qp10, ep11⟩ := List.getElem?_of_mem (show ((wb, .inr (10, [.ref b_wb])) : Nat × va_E) ∈ ws from m1wb)
        refine gF (v := .ref b_wb) hx hb hown hE hK hP qp10 ep11 rfl layW 0 (by decide) w1274 rfl d_W_beginsWith_19 ?_
        obtain ⟨qp12, ep13⟩ := List.getElem?_of_mem (show ((b_wb, .inl (dA 0, M.length, .inl f_wb)) : Nat × va_E) ∈ ws from m2wb)
        refine va_alen (v := nI M.length) hx hb hK hP (qp12) 0 ep13 rfl rfl d_W_beginsWith_22 ?_
        refine lv_icmp_ge hx hb d_W_beginsWith_23 (tgt := 49) rfl (fun g14 => ?_) (fun g14 => ?_)
        · have g14 := (nI_leI (a := M.length) (b := i) (by omega) (by omega)).mp g14
          refine lv_iconst (v := 1) hx hb d_W_beginsWith_49 (by decide) ?_
          exact rfZ hx hb hr (bI_nar true) hlk hS () (by unfold begW; rw [decide_eq_true (by omega), Bool.true_and, ← show i = M.length by omega, i2]; rfl) hP hD (Nat.le_of_ble_eq_true rfl) (Nat.le_of_ble_eq_true rfl) d_W_beginsWith_50
        · have g14 := mt (nI_leI (a := M.length) (b := i) (by omega) (by omega)).mpr g14
          refine lv_aload_n hx hb d_W_beginsWith_26 rfl (lv_at hl 1 rfl) ?_
          obtain ⟨qp15, ep16⟩ := List.getElem?_of_mem (show ((wa, .inr (10, [.ref b_wa])) : Nat × va_E) ∈ ws from m1wa)
          refine gF (v := .ref b_wa) hx hb hown hE hK hP qp15 ep16 rfl layW 0 (by decide) w1274 rfl d_W_beginsWith_27 ?_
          refine lv_iload_n hx hb d_W_beginsWith_30 rfl (lv_at hl 0 rfl) ?_
          obtain ⟨qp17, ep18⟩ := List.getElem?_of_mem (show ((b_wa, .inl (dA 0, L.length, .inl f_wa)) : Nat × va_E) ∈ ws from m2wa)
          refine nbld (f := f_wa) (n := L.length) hx hb hK hP (qp17) 0 ep18 rfl (i) (by omega) (by omega) d_W_beginsWith_31 ?_
          refine tpi (y := (L.getD i 0)) (hfwa i (by omega)) ?_
          refine lv_aload_n hx hb d_W_beginsWith_32 rfl (lv_at hl 2 rfl) ?_
          obtain ⟨qp19, ep20⟩ := List.getElem?_of_mem (show ((wb, .inr (10, [.ref b_wb])) : Nat × va_E) ∈ ws from m1wb)
          refine gF (v := .ref b_wb) hx hb hown hE hK hP qp19 ep20 rfl layW 0 (by decide) w1274 rfl d_W_beginsWith_33 ?_
          refine lv_iload_n hx hb d_W_beginsWith_36 rfl (lv_at hl 0 rfl) ?_
          obtain ⟨qp21, ep22⟩ := List.getElem?_of_mem (show ((b_wb, .inl (dA 0, M.length, .inl f_wb)) : Nat × va_E) ∈ ws from m2wb)
          refine nbld (f := f_wb) (n := M.length) hx hb hK hP (qp21) 0 ep22 rfl (i) (by omega) (by omega) d_W_beginsWith_37 ?_
          refine tpi (y := (M.getD i 0)) (hfwb i (by omega)) ?_
          refine lv_icmp_eq hx hb d_W_beginsWith_38 (tgt := 43) rfl (fun g23 => ?_) (fun g23 => ?_)
          · have g23 := g23
            refine lv_iinc (k := 0) (v := nI (i + 1)) hx hb d_W_beginsWith_43 hl rfl (iincN (i) 1 1 (by decide)) (by decide) rfl (fun ls hl => ?_)
            have hl : lv_has ls 3 [(2, .int (nI (i + 1))), (0, .ref wa), (1, .ref wb)] := hl
            refine lv_goto hx hb d_W_beginsWith_46 (tgt := 17) rfl ?_
            exact ih17 _ (by omega) (i + 1) (by omega) (by rw [allB_s, i2, Bool.true_and]; exact decide_eq_true g23) rfl H _ ls hP hD hS (lv_sub hl [0, 1, 2] rfl)
          · have g23 := g23
            refine lv_iconst (v := 0) hx hb d_W_beginsWith_41 (by decide) ?_
            exact rfZ hx hb hr (bI_nar false) hlk hS () (by unfold begW; rw [allB_1 (f := smB L M) (k := i) (n := M.length) (by omega) (decide_eq_false g23), Bool.and_false]; rfl) hP hD (Nat.le_of_ble_eq_true rfl) (Nat.le_of_ble_eq_true rfl) d_W_beginsWith_42
    exact L17 _ 0 (Nat.zero_le _) rfl rfl H _ ls hP hD hS (lv_sub hl [0, 1, 2] rfl)
  · have g9 := mt (nI_leI (a := M.length) (b := L.length) (by omega) (by omega)).mpr g9
    refine lv_iconst (v := 0) hx hb d_W_beginsWith_13 (by decide) ?_
    exact rfZ hx hb hr (bI_nar false) hlk hS () (by unfold begW; rw [decide_eq_false g9]; rfl) hP hD (Nat.le_of_ble_eq_true rfl) (Nat.le_of_ble_eq_true rfl) d_W_beginsWith_14
theorem d_W_compare_0 : decode prog_12_method_3_code 0 = .ok (.aload_n 0, 1) := by decide +kernel
theorem d_W_compare_1 : decode prog_12_method_3_code 1 = .ok (.getfield 15, 3) := by decide +kernel
theorem d_W_compare_4 : decode prog_12_method_3_code 4 = .ok (.arraylength, 1) := by decide +kernel
theorem d_W_compare_5 : decode prog_12_method_3_code 5 = .ok (.aload_n 1, 1) := by decide +kernel
theorem d_W_compare_6 : decode prog_12_method_3_code 6 = .ok (.getfield 15, 3) := by decide +kernel
theorem d_W_compare_9 : decode prog_12_method_3_code 9 = .ok (.arraylength, 1) := by decide +kernel
theorem d_W_compare_10 : decode prog_12_method_3_code 10 = .ok (.invokestatic 21, 3) := by decide +kernel
theorem d_W_compare_13 : decode prog_12_method_3_code 13 = .ok (.istore_n 2, 1) := by decide +kernel
theorem d_W_compare_14 : decode prog_12_method_3_code 14 = .ok (.iconst 0, 1) := by decide +kernel
theorem d_W_compare_15 : decode prog_12_method_3_code 15 = .ok (.istore_n 3, 1) := by decide +kernel
theorem d_W_compare_16 : decode prog_12_method_3_code 16 = .ok (.iload_n 3, 1) := by decide +kernel
theorem d_W_compare_17 : decode prog_12_method_3_code 17 = .ok (.iload_n 2, 1) := by decide +kernel
theorem d_W_compare_18 : decode prog_12_method_3_code 18 = .ok (.if_icmp .ge 46, 3) := by decide +kernel
theorem d_W_compare_64 : decode prog_12_method_3_code 64 = .ok (.aload_n 0, 1) := by decide +kernel
theorem d_W_compare_65 : decode prog_12_method_3_code 65 = .ok (.getfield 15, 3) := by decide +kernel
theorem d_W_compare_68 : decode prog_12_method_3_code 68 = .ok (.arraylength, 1) := by decide +kernel
theorem d_W_compare_69 : decode prog_12_method_3_code 69 = .ok (.aload_n 1, 1) := by decide +kernel
theorem d_W_compare_70 : decode prog_12_method_3_code 70 = .ok (.getfield 15, 3) := by decide +kernel
theorem d_W_compare_73 : decode prog_12_method_3_code 73 = .ok (.arraylength, 1) := by decide +kernel
theorem d_W_compare_74 : decode prog_12_method_3_code 74 = .ok (.isub, 1) := by decide +kernel
theorem d_W_compare_75 : decode prog_12_method_3_code 75 = .ok (.ireturn, 1) := by decide +kernel
theorem d_W_compare_21 : decode prog_12_method_3_code 21 = .ok (.aload_n 0, 1) := by decide +kernel
theorem d_W_compare_22 : decode prog_12_method_3_code 22 = .ok (.getfield 15, 3) := by decide +kernel
theorem d_W_compare_25 : decode prog_12_method_3_code 25 = .ok (.iload_n 3, 1) := by decide +kernel
theorem d_W_compare_26 : decode prog_12_method_3_code 26 = .ok (.baload, 1) := by decide +kernel
theorem d_W_compare_27 : decode prog_12_method_3_code 27 = .ok (.aload_n 1, 1) := by decide +kernel
theorem d_W_compare_28 : decode prog_12_method_3_code 28 = .ok (.getfield 15, 3) := by decide +kernel
theorem d_W_compare_31 : decode prog_12_method_3_code 31 = .ok (.iload_n 3, 1) := by decide +kernel
theorem d_W_compare_32 : decode prog_12_method_3_code 32 = .ok (.baload, 1) := by decide +kernel
theorem d_W_compare_33 : decode prog_12_method_3_code 33 = .ok (.if_icmp .eq 25, 3) := by decide +kernel
theorem d_W_compare_58 : decode prog_12_method_3_code 58 = .ok (.iinc 3 1, 3) := by decide +kernel
theorem d_W_compare_61 : decode prog_12_method_3_code 61 = .ok (.goto (-45), 3) := by decide +kernel
theorem d_W_compare_36 : decode prog_12_method_3_code 36 = .ok (.aload_n 0, 1) := by decide +kernel
theorem d_W_compare_37 : decode prog_12_method_3_code 37 = .ok (.getfield 15, 3) := by decide +kernel
theorem d_W_compare_40 : decode prog_12_method_3_code 40 = .ok (.iload_n 3, 1) := by decide +kernel
theorem d_W_compare_41 : decode prog_12_method_3_code 41 = .ok (.baload, 1) := by decide +kernel
theorem d_W_compare_42 : decode prog_12_method_3_code 42 = .ok (.sipush 255, 3) := by decide +kernel
theorem d_W_compare_45 : decode prog_12_method_3_code 45 = .ok (.iand, 1) := by decide +kernel
theorem d_W_compare_46 : decode prog_12_method_3_code 46 = .ok (.aload_n 1, 1) := by decide +kernel
theorem d_W_compare_47 : decode prog_12_method_3_code 47 = .ok (.getfield 15, 3) := by decide +kernel
theorem d_W_compare_50 : decode prog_12_method_3_code 50 = .ok (.iload_n 3, 1) := by decide +kernel
theorem d_W_compare_51 : decode prog_12_method_3_code 51 = .ok (.baload, 1) := by decide +kernel
theorem d_W_compare_52 : decode prog_12_method_3_code 52 = .ok (.sipush 255, 3) := by decide +kernel
theorem d_W_compare_55 : decode prog_12_method_3_code 55 = .ok (.iand, 1) := by decide +kernel
theorem d_W_compare_56 : decode prog_12_method_3_code 56 = .ok (.isub, 1) := by decide +kernel
theorem d_W_compare_57 : decode prog_12_method_3_code 57 = .ok (.ireturn, 1) := by decide +kernel
theorem w1275 : Cond.methodLink "SeriesVault$Word" 21 ⟨"java/lang/Math", "min", "(II)I"⟩ ∈ aW := aw_of (tb_4 (List.mem_of_getElem? (i := 228) rfl)) rfl
set_option maxHeartbeats 4000000 in
set_option maxRecDepth 100000 in
theorem v_Wcmp (l : Launch) (D : va_G) (dA : Nat → ClassId) (sz : Nat) (ws : va_W) (wa : Nat) (L : List Int32) (wb : Nat) (M : List Int32) (hwwa : isWo dA ws wa L) (hlwa : L.length ≤ 65536) (hwwb : isWo dA ws wb M) (hlwb : M.length ≤ 65536) : Met l ⟨"SeriesVault$Word", "compare", "(LSeriesVault$Word;)I"⟩ [Cond.code ⟨"SeriesVault$Word", "compare", "(LSeriesVault$Word;)I"⟩ prog_12_method_3_code 4 (some FieldType.int)] { frames := 1, cells := 0, slots := 0, locals := 13 } (pC D dA [.ref wa, .ref wb] (ws) sz) (va_Qi (fun (r9 : Int32) (u9 : Unit) => r9 = cmpW L M) (fun (u9 : Unit) t9 => bW D (va_A (ws) sz) (ws) t9) (va_A (ws) sz)) 0 0 (va_A (ws) sz) := by
  refine mkC (y := ⟨"SeriesVault$Word", "compare", "(LSeriesVault$Word;)I"⟩) (cc := prog_12_method_3_code) (maxL := 4) (av := [.ref wa, .ref wb]) (ws := ws) (sz := sz) (Qc := fun A => va_Qi (fun (r9 : Int32) (u9 : Unit) => r9 = cmpW L M) (fun (u9 : Unit) t9 => bW D A (ws) t9) A) (by decide) (Nat.le_of_ble_eq_true rfl) ?_
  intro A p e s m below meth c ls hsz hB
  obtain ⟨hx, hb, hr, hml, hown, hin, hlk, hE, hK, hP, hD, hS, hA, hN, hl⟩ := hB
  have hown : s.vm.findClass "SeriesVault$Word" = some m.cls := hown
  have hl : lv_has ls 4 [(0, .ref wa), (1, .ref wb)] := hl
  obtain ⟨H, hH⟩ : ∃ z, z = s.heap := ⟨_, rfl⟩
  have hP : va_P D vwCl (ws) H := by rw [hH]; exact hP
  have hS : va_S A s.heap H [] := by rw [hH]; exact hS
  rw [← hH]
  obtain ⟨b_wa, f_wa, m1wa, m2wa, y_wa, hfwa⟩ := hwwa
  obtain ⟨b_wb, f_wb, m1wb, m2wb, y_wb, hfwb⟩ := hwwb
  refine lv_aload_n hx hb d_W_compare_0 rfl (lv_at hl 0 rfl) ?_
  obtain ⟨qp1, ep2⟩ := List.getElem?_of_mem (show ((wa, .inr (10, [.ref b_wa])) : Nat × va_E) ∈ ws from m1wa)
  refine gF (v := .ref b_wa) hx hb hown hE hK hP qp1 ep2 rfl layW 0 (by decide) w1274 rfl d_W_compare_1 ?_
  obtain ⟨qp3, ep4⟩ := List.getElem?_of_mem (show ((b_wa, .inl (dA 0, L.length, .inl f_wa)) : Nat × va_E) ∈ ws from m2wa)
  refine va_alen (v := nI L.length) hx hb hK hP (qp3) 0 ep4 rfl rfl d_W_compare_4 ?_
  refine lv_aload_n hx hb d_W_compare_5 rfl (lv_at hl 1 rfl) ?_
  obtain ⟨qp5, ep6⟩ := List.getElem?_of_mem (show ((wb, .inr (10, [.ref b_wb])) : Nat × va_E) ∈ ws from m1wb)
  refine gF (v := .ref b_wb) hx hb hown hE hK hP qp5 ep6 rfl layW 0 (by decide) w1274 rfl d_W_compare_6 ?_
  obtain ⟨qp7, ep8⟩ := List.getElem?_of_mem (show ((b_wb, .inl (dA 0, M.length, .inl f_wb)) : Nat × va_E) ∈ ws from m2wb)
  refine va_alen (v := nI M.length) hx hb hK hP (qp7) 0 ep8 rfl rfl d_W_compare_9 ?_
  refine va_mmin hx hb (hml.trans hl.1.symm) hown (hE.t w1275 rfl) (hE.t w548 rfl) (hE.t w549 rfl) (hE.t w550 rfl) (Nat.le_of_ble_eq_true rfl) (Nat.le_of_ble_eq_true rfl) (Nat.le_of_ble_eq_true rfl) (Nat.le_of_ble_eq_true rfl) d_W_compare_10 (tpi (y := nI (min L.length M.length)) (nI_min (a := L.length) (b := M.length) (by omega) (by omega)) ?_)
  refine lv_istore_n hx hb d_W_compare_13 rfl hl (by decide) rfl (fun ls hl => ?_)
  have hl : lv_has ls 4 [(2, .int (nI (min L.length M.length))), (0, .ref wa), (1, .ref wb)] := hl
  refine lv_iconst (v := 0) hx hb d_W_compare_14 (by decide) ?_
  refine lv_istore_n hx hb d_W_compare_15 rfl hl (by decide) rfl (fun ls hl => ?_)
  have hl : lv_has ls 4 [(3, .int 0), (2, .int (nI (min L.length M.length))), (0, .ref wa), (1, .ref wb)] := hl
  have L16 : ∀ (k9 : Nat) (i : Nat) (i1 : i ≤ min L.length M.length) (i2 : frst (dfB L M) (min L.length M.length - i) i = frst (dfB L M) (min L.length M.length) 0) (hk9 : min L.length M.length - i = k9), ∀ (H : Heap) (locs : List Loc) (ls : Array Slot) (hP : va_P D vwCl (ws) H) (hD : va_D A (ws)) (hS : va_S A s.heap H locs) (hl : lv_has ls 4 [(3, .int (nI i)), (2, .int (nI (min L.length M.length))), (0, .ref wa), (1, .ref wb)]), W p l e ({ frames := 1, cells := 0, slots := 0, locals := 13 } : Room) s m ([.ref wa, .ref wb] : List Value).toArray below meth c H locs 0 0 (MQ below (va_Qi (fun (r9 : Int32) (u9 : Unit) => r9 = cmpW L M) (fun (u9 : Unit) t9 => bW D A (ws) t9) A) ([.ref wa, .ref wb] : List Value).toArray s 0 0 A) (F0 m 16 ls []) := by
    intro k9
    induction k9 using Nat.strongRecOn with
    | ind k9 ih16 =>
      intro i i1 i2 hk9 H locs ls hP hD hS hl
      refine lv_iload_n hx hb d_W_compare_16 rfl (lv_at hl 0 rfl) ?_
      refine lv_iload_n hx hb d_W_compare_17 rfl (lv_at hl 1 rfl) ?_
      refine lv_icmp_ge hx hb d_W_compare_18 (tgt := 64) rfl (fun g9 => ?_) (fun g9 => ?_)
      · have g9 := (nI_leI (a := min L.length M.length) (b := i) (by omega) (by omega)).mp g9
        refine lv_aload_n hx hb d_W_compare_64 rfl (lv_at hl 2 rfl) ?_
        obtain ⟨qp10, ep11⟩ := List.getElem?_of_mem (show ((wa, .inr (10, [.ref b_wa])) : Nat × va_E) ∈ ws from m1wa)
        refine gF (v := .ref b_wa) hx hb hown hE hK hP qp10 ep11 rfl layW 0 (by decide) w1274 rfl d_W_compare_65 ?_
        obtain ⟨qp12, ep13⟩ := List.getElem?_of_mem (show ((b_wa, .inl (dA 0, L.length, .inl f_wa)) : Nat × va_E) ∈ ws from m2wa)
        refine va_alen (v := nI L.length) hx hb hK hP (qp12) 0 ep13 rfl rfl d_W_compare_68 ?_
        refine lv_aload_n hx hb d_W_compare_69 rfl (lv_at hl 3 rfl) ?_
        obtain ⟨qp14, ep15⟩ := List.getElem?_of_mem (show ((wb, .inr (10, [.ref b_wb])) : Nat × va_E) ∈ ws from m1wb)
        refine gF (v := .ref b_wb) hx hb hown hE hK hP qp14 ep15 rfl layW 0 (by decide) w1274 rfl d_W_compare_70 ?_
        obtain ⟨qp16, ep17⟩ := List.getElem?_of_mem (show ((b_wb, .inl (dA 0, M.length, .inl f_wb)) : Nat × va_E) ∈ ws from m2wb)
        refine va_alen (v := nI M.length) hx hb hK hP (qp16) 0 ep17 rfl rfl d_W_compare_73 ?_
        refine lv_isub hx hb d_W_compare_74 ?_
        exact rfI hx hb hr hlk hS () (by rw [cmpW_n (by rw [← i2, show min L.length M.length - i = 0 by omega]; rfl)]) hP hD (Nat.le_of_ble_eq_true rfl) (Nat.le_of_ble_eq_true rfl) d_W_compare_75
      · have g9 := mt (nI_leI (a := min L.length M.length) (b := i) (by omega) (by omega)).mpr g9
        refine lv_aload_n hx hb d_W_compare_21 rfl (lv_at hl 2 rfl) ?_
        obtain ⟨qp18, ep19⟩ := List.getElem?_of_mem (show ((wa, .inr (10, [.ref b_wa])) : Nat × va_E) ∈ ws from m1wa)
        refine gF (v := .ref b_wa) hx hb hown hE hK hP qp18 ep19 rfl layW 0 (by decide) w1274 rfl d_W_compare_22 ?_
        refine lv_iload_n hx hb d_W_compare_25 rfl (lv_at hl 0 rfl) ?_
        obtain ⟨qp20, ep21⟩ := List.getElem?_of_mem (show ((b_wa, .inl (dA 0, L.length, .inl f_wa)) : Nat × va_E) ∈ ws from m2wa)
        refine nbld (f := f_wa) (n := L.length) hx hb hK hP (qp20) 0 ep21 rfl (i) (by omega) (by omega) d_W_compare_26 ?_
        refine tpi (y := (L.getD i 0)) (hfwa i (by omega)) ?_
        refine lv_aload_n hx hb d_W_compare_27 rfl (lv_at hl 3 rfl) ?_
        obtain ⟨qp22, ep23⟩ := List.getElem?_of_mem (show ((wb, .inr (10, [.ref b_wb])) : Nat × va_E) ∈ ws from m1wb)
        refine gF (v := .ref b_wb) hx hb hown hE hK hP qp22 ep23 rfl layW 0 (by decide) w1274 rfl d_W_compare_28 ?_
        refine lv_iload_n hx hb d_W_compare_31 rfl (lv_at hl 0 rfl) ?_
        obtain ⟨qp24, ep25⟩ := List.getElem?_of_mem (show ((b_wb, .inl (dA 0, M.length, .inl f_wb)) : Nat × va_E) ∈ ws from m2wb)
        refine nbld (f := f_wb) (n := M.length) hx hb hK hP (qp24) 0 ep25 rfl (i) (by omega) (by omega) d_W_compare_32 ?_
        refine tpi (y := (M.getD i 0)) (hfwb i (by omega)) ?_
        refine lv_icmp_eq hx hb d_W_compare_33 (tgt := 58) rfl (fun g26 => ?_) (fun g26 => ?_)
        · have g26 := g26
          refine lv_iinc (k := 0) (v := nI (i + 1)) hx hb d_W_compare_58 hl rfl (iincN (i) 1 1 (by decide)) (by decide) rfl (fun ls hl => ?_)
          have hl : lv_has ls 4 [(3, .int (nI (i + 1))), (2, .int (nI (min L.length M.length))), (0, .ref wa), (1, .ref wb)] := hl
          refine lv_goto hx hb d_W_compare_61 (tgt := 16) rfl ?_
          exact ih16 _ (by omega) (i + 1) (by omega) (by rw [← i2, frst_f (n := min L.length M.length - i) (by omega) (show dfB L M i = false by unfold dfB; rw [decide_eq_true g26]; rfl), show min L.length M.length - i - 1 = min L.length M.length - (i + 1) by omega]) rfl H _ ls hP hD hS (lv_sub hl [0, 1, 2, 3] rfl)
        · have g26 := g26
          refine lv_aload_n hx hb d_W_compare_36 rfl (lv_at hl 2 rfl) ?_
          obtain ⟨qp27, ep28⟩ := List.getElem?_of_mem (show ((wa, .inr (10, [.ref b_wa])) : Nat × va_E) ∈ ws from m1wa)
          refine gF (v := .ref b_wa) hx hb hown hE hK hP qp27 ep28 rfl layW 0 (by decide) w1274 rfl d_W_compare_37 ?_
          refine lv_iload_n hx hb d_W_compare_40 rfl (lv_at hl 0 rfl) ?_
          obtain ⟨qp29, ep30⟩ := List.getElem?_of_mem (show ((b_wa, .inl (dA 0, L.length, .inl f_wa)) : Nat × va_E) ∈ ws from m2wa)
          refine nbld (f := f_wa) (n := L.length) hx hb hK hP (qp29) 0 ep30 rfl (i) (by omega) (by omega) d_W_compare_41 ?_
          refine tpi (y := (L.getD i 0)) (hfwa i (by omega)) ?_
          refine lv_sipush (v := 255) hx hb d_W_compare_42 (by decide) ?_
          refine lv_iand hx hb d_W_compare_45 ?_
          refine lv_aload_n hx hb d_W_compare_46 rfl (lv_at hl 3 rfl) ?_
          obtain ⟨qp31, ep32⟩ := List.getElem?_of_mem (show ((wb, .inr (10, [.ref b_wb])) : Nat × va_E) ∈ ws from m1wb)
          refine gF (v := .ref b_wb) hx hb hown hE hK hP qp31 ep32 rfl layW 0 (by decide) w1274 rfl d_W_compare_47 ?_
          refine lv_iload_n hx hb d_W_compare_50 rfl (lv_at hl 0 rfl) ?_
          obtain ⟨qp33, ep34⟩ := List.getElem?_of_mem (show ((b_wb, .inl (dA 0, M.length, .inl f_wb)) : Nat × va_E) ∈ ws from m2wb)
          refine nbld (f := f_wb) (n := M.length) hx hb hK hP (qp33) 0 ep34 rfl (i) (by omega) (by omega) d_W_compare_51 ?_
          refine tpi (y := (M.getD i 0)) (hfwb i (by omega)) ?_
          refine lv_sipush (v := 255) hx hb d_W_compare_52 (by decide) ?_
          refine lv_iand hx hb d_W_compare_55 ?_
          refine lv_isub hx hb d_W_compare_56 ?_
          exact rfI hx hb hr hlk hS () (by rw [cmpW_s (i := i) (by rw [← i2, frst_t (n := min L.length M.length - i) (by omega) (show dfB L M i = true by unfold dfB; rw [decide_eq_false g26]; rfl)])]) hP hD (Nat.le_of_ble_eq_true rfl) (Nat.le_of_ble_eq_true rfl) d_W_compare_57
  exact L16 _ 0 (Nat.zero_le _) rfl rfl H _ ls hP hD hS (lv_sub hl [0, 1, 2, 3] rfl)
