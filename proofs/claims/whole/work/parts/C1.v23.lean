section XG
variable {p : Program} {l : Launch} {e : Env} {R : Room} {s : State} {m : MethodId} {args : Array Value} {below : List Frame} {meth : Method} {c : Code} {H : Heap} {locs : List Loc} {cells slots : Nat} {Q : State → Prop}
variable {D : va_G} {dA : Nat → ClassId} {A : Nat → Prop} {cc : ByteArray} {pc : Nat} {ls : Array Slot} {rest st0 : List Value} {ws wc wr : va_W}
/-- into a callee that throws, what it leaves told by facts -/
theorem xkV {y : MethodName} {bytes : ByteArray} {maxL mc ms n index nL : Nat} {ret : Option FieldType} {rm : Room} {E : String} {S : Type} {F : S → Prop} {w1 : S → va_W} {own C : String} {T : u_T} {N ci q0 : Nat} {fs : List Value} {b : Nat} {As : List Value}
    (hx : p.tables.exec = Jvm.exec) (hb : c.code = cc) (hml : c.maxLocals = nL) (hown : s.vm.findClass own = some m.cls) (hE : eV s) (hK : va_K D vwCl (arT dA) s) (hN : sK s.heap H)
    (hM : mX l y [Cond.code y bytes maxL ret] rm (pC D dA (.ref b :: As) wc H.size) E (fun st t => va_F (va_A wc H.size) st t ∧ ∃ u : S, F u ∧ bW D (va_A wc H.size) (w1 u) t) mc ms (va_A wc H.size)) (he : wc[q0]? = some (b, .inr (ci, fs))) (hcl : vwCl[ci]? = some (C, T, N))
    (hc : Cond.code y bytes maxL ret ∈ aW) (hl : Cond.methodLink own index y ∈ aW) (hi : Cond.instanceMethod y ∈ aW) (hse : Cond.selects C y y ∈ aW) (hini : Cond.initialized y.cls ∈ aW) (hrc : rm.cells = mc) (hrs : rm.slots = ms)
    (hd : (y.cls ≠ "java/lang/invoke/MethodHandle" ∧ y.cls ≠ "java/lang/invoke/VarHandle") ∧ (parseMethodDescriptor y.desc).map (fun d => d.parameters.length) = some n) (hR : rm.frames + 1 ≤ R.frames ∧ 8 + (maxL + 11) + rm.locals ≤ R.locals)
    (hn : As.length = n) (hsize : ls.size = nL) (hst : st0 = As.reverse ++ .ref b :: rest) (hW : (rest.map fun v => v.category).sum ≤ 8) (hdg : decode cc pc = .ok (.invokevirtual index, 3)) (hf : cells + mc ≤ R.cells ∧ slots + ms ≤ R.slots)
    (hP : va_P D vwCl (wr ++ wc) H) (hD : va_D A (wr ++ wc)) (hS : va_S A s.heap H locs) (hA : ∀ q, s.heap.size ≤ q → A q)
    (kk : ∀ (u : S) (x : Addr) (ce : Cell) (H1 : Heap) (locs1 : List Loc), F u → va_P D vwCl (wr ++ w1 u) H1 → va_D A (wr ++ w1 u) → va_S A s.heap H1 locs1 → H1[x]? = some ce → ce.vm = .none → s.vm.findClass E = some ce.cls → wX p l e R s m args below meth c H1 locs1 (cells + mc) (slots + ms) Q (F0 m pc ls rest) x) :
    W p l e R s m args below meth c H locs cells slots Q (F0 m pc ls st0) := by
  intro T0 hT X
  have hPc := spP hP
  have hDc := spD hD
  have hF := va_free hD hS hA _ (fiC wr wc)
  have hcode : (Cond.code y bytes maxL ret).before args s = true := hE.t hc rfl
  have hinst : (Cond.instanceMethod y).before args s = true := hE.t hi rfl
  have hsel : (Cond.selects C y y).before args s = true := hE.t hse rfl
  obtain ⟨cellB, hcB, hoB, hclB⟩ := va_recv hK hPc hcl he
  obtain ⟨mk, methM, hnamed, hmethM, hstM, habM⟩ := Cond.instanceMethod_spec hinst
  obtain ⟨methM', cM, hmethM', -, -, -, -, -, -, hsigM⟩ := Cond.code_spec hnamed hcode
  cases hmethM.symm.trans hmethM'
  obtain ⟨c2, r2, m2, q1, q2, q3, q4, kP, hkP, hkPi⟩ := Cond.selects_spec hsel
  cases hclB.symm.trans q1
  cases (State.methodFound?_of_named hnamed hd.1).symm.trans q2
  cases hnamed.symm.trans q3
  have hselP : selectMethod e.platform s.vm cellB.cls mk = .method mk := by rw [Launch.admits_selectMethod X.admits]; exact q4
  have hlen : As.length = methM.sig.parameters.length := by
    have h2 := hd.2
    rw [hsigM] at h2
    exact hn.trans (Option.some.inj h2).symm
  obtain ⟨vm₁, X₁, hstep₁⟩ := X.invokevirtual hx hown (hE.t hl rfl) hnamed hmethM hstM hkP hkPi hd.1 (a := b) (cell := cellB) (by rw [hT]; exact hcB)
    (fun z h => by rw [h] at hoB; cases hoB) hselP hmethM habM hkP hkPi (g := F0 m pc ls st0) rfl (argsL := As) (rest := rest) hlen hst (by rw [hb]; exact hdg)
  obtain ⟨x, ce, T', t, L, X', hL, e1, hce, hcv, hcl2, ⟨hFr, u, hu, hB⟩, hsteps⟩ := xBack X₁ (g := F0 m pc ls rest) rfl (hsize.trans hml.symm) (ig := .invokevirtual index) (len := 3) (by rw [hb]; exact hdg) (lv_room hW) (X₁.named hnamed) hM
    (pC_blind _ _ _ _ (pre_1 hE hK hN hPc hDc (T0.setVm vm₁) hT X₁.warmed)) (word_at X₁.warmed (Or.inl rfl) hcode) (word_at X₁.warmed (Or.inl rfl) (hE.t (args := args) hini rfl)) hrc hrs hR hf
  have hz : H.size ≤ t.heap.size := by have := hFr.1; rw [← hT]; exact this
  have hk : ∀ q : Nat, q < H.size → ¬ va_A wc H.size q → t.heap[q]? = H[q]? := fun q h1 h2 => by
    have := hFr.2 q (by show q < T0.heap.size; rw [hT]; exact h1) h2
    rw [this]; show T0.heap[q]? = _; rw [hT]
  obtain ⟨g1, g2⟩ := va_join hP hD _ _ (fiC wr wc) (fiR wr wc) (nd_of List.nodup_range) (fiD wr wc) hk hF hB.1 hB.2
  obtain ⟨t2, a1, b1⟩ := kk u x ce t.heap (locs ++ L) hu g1 g2 ⟨Nat.le_trans hS.1 hz, fun q h1 h2 => by
      rw [hk q (Nat.lt_of_lt_of_le h1 hS.1) (fun z => h2 (hF q z))]; exact hS.2.1 q h1 h2, fun q hq => by
      rcases List.mem_append.mp hq with h | h
      · exact hS.2.2 q h
      · exact hF _ (hL q h)⟩ hce hcv (fX X₁.warmed hcl2) T' e1 X'
  exact ⟨t2, hstep₁ _ fun acts => by rw [doInvoke_state]; exact hsteps.trans a1, b1⟩
theorem xkE {S : Type} {F : S → Prop} {w1 : S → va_W} (u : S) (hF : F u) (hP : va_P D vwCl (w1 u) H) (hD : va_D A (w1 u)) (hS : va_S A s.heap H locs) (t : State) (h1 : H.size ≤ t.heap.size) (h2 : ∀ q : Nat, q < H.size → t.heap[q]? = H[q]?) : va_F A s t ∧ ∃ u : S, F u ∧ bW D A (w1 u) t := by
  obtain ⟨g1, g2⟩ := xEndV hP hD hS t h1 h2
  exact ⟨g1, u, hF, g2⟩
end XG
/-- bytes of the tape alike -/
def txQ (f : Nat → Int32) (a b i : Nat) : Bool := decide (f (a + i) = f (b + i))
def sbB (f : Nat → Int32) (a b a2 b2 : Nat) : Bool := decide (b - a = b2 - a2) && allB (b - a) (txQ f a a2)
def taC (f : Nat → Int32) (S E : Nat → Nat) (q n k : Nat) : Bool := sbB f (S k) (E k) q n
/-- a label read: a flaw, or the ends of its name and of its value -/
def rlC (f : Nat → Int32) (len q c : Nat) (S E : Nat → Nat) : (Int32 × Nat) ⊕ (Nat × Nat) :=
  if q + wlen f len 24 q = q ∨ q + wlen f len 24 q = len ∨ ¬ f (q + wlen f len 24 q) = 61 then .inl (7, q + wlen f len 24 q) else
  if c = 6 ∨ anyB c (taC f S E q (q + wlen f len 24 q)) = true then .inl (8, q) else
  if q + wlen f len 24 q + 1 + wlen f len 24 (q + wlen f len 24 q + 1) = q + wlen f len 24 q + 1 then .inl (7, q + wlen f len 24 q + 1 + wlen f len 24 (q + wlen f len 24 q + 1)) else
  .inr (q + wlen f len 24 q, q + wlen f len 24 q + 1 + wlen f len 24 (q + wlen f len 24 q + 1))
section RL
variable {f : Nat → Int32} {len q c : Nat} {S E : Nat → Nat}
theorem rl_a (h : q + wlen f len 24 q = q ∨ q + wlen f len 24 q = len ∨ ¬ f (q + wlen f len 24 q) = 61) : rlC f len q c S E = .inl (7, q + wlen f len 24 q) := if_pos h
theorem rl_b (h1 : ¬ q + wlen f len 24 q = q) (h2 : ¬ q + wlen f len 24 q = len) (h3 : f (q + wlen f len 24 q) = 61) (h : c = 6 ∨ anyB c (taC f S E q (q + wlen f len 24 q)) = true) : rlC f len q c S E = .inl (8, q) :=
  (if_neg (fun z => z.elim h1 (fun z => z.elim h2 (fun z => z h3)))).trans (if_pos h)
theorem rl_c (h1 : ¬ q + wlen f len 24 q = q) (h2 : ¬ q + wlen f len 24 q = len) (h3 : f (q + wlen f len 24 q) = 61) (h4 : ¬ c = 6) (h5 : anyB c (taC f S E q (q + wlen f len 24 q)) = false) (h : q + wlen f len 24 q + 1 + wlen f len 24 (q + wlen f len 24 q + 1) = q + wlen f len 24 q + 1) : rlC f len q c S E = .inl (7, q + wlen f len 24 q + 1 + wlen f len 24 (q + wlen f len 24 q + 1)) :=
  (if_neg (fun z => z.elim h1 (fun z => z.elim h2 (fun z => z h3)))).trans ((if_neg (fun z => z.elim h4 (fun z => by rw [h5] at z; cases z))).trans (if_pos h))
theorem rl_d (h1 : ¬ q + wlen f len 24 q = q) (h2 : ¬ q + wlen f len 24 q = len) (h3 : f (q + wlen f len 24 q) = 61) (h4 : ¬ c = 6) (h5 : anyB c (taC f S E q (q + wlen f len 24 q)) = false) (h : ¬ q + wlen f len 24 q + 1 + wlen f len 24 (q + wlen f len 24 q + 1) = q + wlen f len 24 q + 1) : rlC f len q c S E = .inr (q + wlen f len 24 q, q + wlen f len 24 q + 1 + wlen f len 24 (q + wlen f len 24 q + 1)) :=
  (if_neg (fun z => z.elim h1 (fun z => z.elim h2 (fun z => z h3)))).trans ((if_neg (fun z => z.elim h4 (fun z => by rw [h5] at z; cases z))).trans (if_neg h))
end RL
theorem rl_in {f : Nat → Int32} {len q c : Nat} {S E : Nat → Nat} {a b : Nat} (hq : q ≤ len) (h : rlC f len q c S E = .inr (a, b)) : ¬ c = 6 ∧ q < a ∧ a ≤ q + 24 ∧ a + 1 < b ∧ b ≤ a + 25 ∧ b ≤ len ∧ f a = 61 ∧ a = q + wlen f len 24 q ∧ b = a + 1 + wlen f len 24 (a + 1) ∧ anyB c (taC f S E q a) = false := by
  unfold rlC at h
  have w1 := wlen_in (f := f) (len := len) (w := 24) hq
  have w2 := wlen_le f len 24 q
  split at h
  · cases h
  · next g1 =>
    split at h
    · cases h
    · next g2 =>
      split at h
      · cases h
      · next g3 =>
        cases h
        have h61 : f (q + wlen f len 24 q) = 61 := Decidable.byContradiction (fun z => g1 (Or.inr (Or.inr z)))
        have n1 : ¬ q + wlen f len 24 q = q := fun z => g1 (Or.inl z)
        have n2 : ¬ q + wlen f len 24 q = len := fun z => g1 (Or.inr (Or.inl z))
        have w3 := wlen_in (f := f) (len := len) (w := 24) (show q + wlen f len 24 q + 1 ≤ len by omega)
        have w4 := wlen_le f len 24 (q + wlen f len 24 q + 1)
        refine ⟨fun z => g2 (Or.inl z), by omega, by omega, by omega, by omega, by omega, h61, rfl, rfl, ?_⟩
        cases ha : anyB c (taC f S E q (q + wlen f len 24 q)) with
        | false => rfl
        | true => exact absurd (Or.inr ha) g2
abbrev rdT : Type := (Int32 × Nat) ⊕ (Nat × (Nat → Nat) × (Nat → Nat) × (Nat → Nat))
/-- the text of a series read: a flaw, or its labels -/
def rdC (f : Nat → Int32) (len : Nat) : Nat → Nat → Nat → (Nat → Nat) → (Nat → Nat) → (Nat → Nat) → rdT
  | 0, q, _, _, _, _ => .inl (8, q)
  | w + 1, q, c, S, E, V => match rlC f len q c S E with
    | .inl a => .inl a
    | .inr (n, b) => if b = len then .inr (c + 1, va_up S c q, va_up E c n, va_up V c b) else if f b = 44 then rdC f len w (b + 1) (c + 1) (va_up S c q) (va_up E c n) (va_up V c b) else .inl (7, b)
theorem rd_x {f : Nat → Int32} {len w q c : Nat} {S E V : Nat → Nat} {a : Int32 × Nat} (h : rlC f len q c S E = .inl a) : rdC f len (w + 1) q c S E V = .inl a := by
  unfold rdC
  rw [h]
theorem rd_s {f : Nat → Int32} {len w q c n b : Nat} {S E V : Nat → Nat} (h : rlC f len q c S E = .inr (n, b)) : rdC f len (w + 1) q c S E V = if b = len then .inr (c + 1, va_up S c q, va_up E c n, va_up V c b) else if f b = 44 then rdC f len w (b + 1) (c + 1) (va_up S c q) (va_up E c n) (va_up V c b) else .inl (7, b) := by
  show (match rlC f len q c S E with | .inl a => _ | .inr (n, b) => _) = _
  rw [h]
/-- labels that lie on the tape -/
def lbOk (len c : Nat) (S E V : Nat → Nat) : Prop := ∀ k, k < c → S k < E k ∧ E k ≤ S k + 24 ∧ E k + 1 < V k ∧ V k ≤ E k + 25 ∧ V k ≤ len
theorem lbOk_s {len c q n b : Nat} {S E V : Nat → Nat} (h : lbOk len c S E V) (h1 : q < n) (h2 : n ≤ q + 24) (h3 : n + 1 < b) (h4 : b ≤ n + 25) (h5 : b ≤ len) : lbOk len (c + 1) (va_up S c q) (va_up E c n) (va_up V c b) := by
  intro k hk
  by_cases e : k = c
  · subst e
    rw [va_up_self, va_up_self, va_up_self]
    exact ⟨h1, h2, h3, h4, h5⟩
  · rw [va_up_ne _ _ e, va_up_ne _ _ e, va_up_ne _ _ e]
    exact h k (by omega)
def sp7 (z : Int32) : Prop := z = 34 ∨ z = 40 ∨ z = 41 ∨ z = 44 ∨ z = 61 ∨ z = 123 ∨ z = 125
theorem lsw_hit {z : Int32} (h : sp7 z) : Op.lookupswitch.offset [(34, 67), (40, 67), (41, 67), (44, 67), (61, 67), (123, 67), (125, 67)] 69 z.toInt = 67 := by
  rcases h with h | h | h | h | h | h | h <;> subst h <;> decide
theorem lsw_no {z : Int32} (h : ¬ sp7 z) : Op.lookupswitch.offset [(34, 67), (40, 67), (41, 67), (44, 67), (61, 67), (123, 67), (125, 67)] 69 z.toInt = 69 := by
  have k : ∀ (a : Int32) (n : Int), a.toInt = n → ¬ z = a → ¬ n = z.toInt := fun a n e g q => g (Int32.toInt_inj.mp (by rw [e, q]))
  unfold sp7 at h
  simp only [not_or] at h
  obtain ⟨h1, h2, h3, h4, h5, h6, h7⟩ := h
  rw [Op.lookupswitch.offset_cons, if_neg (k 34 34 (by decide) h1), Op.lookupswitch.offset_cons, if_neg (k 40 40 (by decide) h2), Op.lookupswitch.offset_cons, if_neg (k 41 41 (by decide) h3), Op.lookupswitch.offset_cons, if_neg (k 44 44 (by decide) h4), Op.lookupswitch.offset_cons, if_neg (k 61 61 (by decide) h5), Op.lookupswitch.offset_cons, if_neg (k 123 123 (by decide) h6), Op.lookupswitch.offset_cons, if_neg (k 125 125 (by decide) h7)]
  rfl
theorem isWd_h {z : Int32} (h : sp7 z) : isWd z = false := by
  rcases h with h | h | h | h | h | h | h <;> subst h <;> decide
theorem isWd_no {z : Int32} (h : ¬ sp7 z) : isWd z = (!decide (z < 33) && !decide (126 < z)) := by
  unfold sp7 at h
  simp only [not_or] at h
  obtain ⟨h1, h2, h3, h4, h5, h6, h7⟩ := h
  have a1 : z ≤ 32 ↔ z < 33 := by
    rw [Int32.le_iff_toInt_le, Int32.lt_iff_toInt_lt, show (32 : Int32).toInt = 32 by decide, show (33 : Int32).toInt = 33 by decide]
    omega
  have a2 : 127 ≤ z ↔ 126 < z := by
    rw [Int32.le_iff_toInt_le, Int32.lt_iff_toInt_lt, show (127 : Int32).toInt = 127 by decide, show (126 : Int32).toInt = 126 by decide]
    omega
  have b1 : decide (z ≤ 32) = decide (z < 33) := decide_eq_decide.mpr a1
  have b2 : decide (127 ≤ z) = decide (126 < z) := decide_eq_decide.mpr a2
  unfold isWd
  rw [decide_eq_false h1, decide_eq_false h2, decide_eq_false h3, decide_eq_false h4, decide_eq_false h5, decide_eq_false h6, decide_eq_false h7, b1, b2]
  simp
theorem anyB_1 {k : Nat} {f : Nat → Bool} (hf : f k = true) : ∀ {n : Nat}, k < n → anyB n f = true
  | 0, h => absurd h (Nat.not_lt_zero k)
  | n + 1, h => by
    rw [anyB_s]
    by_cases e : k = n
    · subst e; rw [hf, Bool.or_true]
    · rw [anyB_1 hf (n := n) (by omega), Bool.true_or]
theorem wlen_e {f : Nat → Int32} {len w q : Nat} (h : w = 0 ∨ len ≤ q) : wlen f len w q = 0 := by
  cases w with
  | zero => rfl
  | succ w =>
    show (if len ≤ q then 0 else _) = 0
    rw [if_pos (by omega)]
theorem d_R_isOfWord_0 : decode prog_8_method_5_code 0 = .ok (.iload_n 0, 1) := by decide +kernel
theorem d_R_isOfWord_1 : decode prog_8_method_5_code 1 = .ok (.lookupswitch 69 #[(34, 67), (40, 67), (41, 67), (44, 67), (61, 67), (123, 67), (125, 67)], 67) := by decide +kernel
theorem d_R_isOfWord_68 : decode prog_8_method_5_code 68 = .ok (.iconst 0, 1) := by decide +kernel
theorem d_R_isOfWord_69 : decode prog_8_method_5_code 69 = .ok (.ireturn, 1) := by decide +kernel
theorem d_R_isOfWord_70 : decode prog_8_method_5_code 70 = .ok (.iload_n 0, 1) := by decide +kernel
theorem d_R_isOfWord_71 : decode prog_8_method_5_code 71 = .ok (.bipush 33, 2) := by decide +kernel
theorem d_R_isOfWord_73 : decode prog_8_method_5_code 73 = .ok (.if_icmp .lt 13, 3) := by decide +kernel
theorem d_R_isOfWord_86 : decode prog_8_method_5_code 86 = .ok (.iconst 0, 1) := by decide +kernel
theorem d_R_isOfWord_87 : decode prog_8_method_5_code 87 = .ok (.ireturn, 1) := by decide +kernel
theorem d_R_isOfWord_76 : decode prog_8_method_5_code 76 = .ok (.iload_n 0, 1) := by decide +kernel
theorem d_R_isOfWord_77 : decode prog_8_method_5_code 77 = .ok (.bipush 126, 2) := by decide +kernel
theorem d_R_isOfWord_79 : decode prog_8_method_5_code 79 = .ok (.if_icmp .gt 7, 3) := by decide +kernel
theorem d_R_isOfWord_82 : decode prog_8_method_5_code 82 = .ok (.iconst 1, 1) := by decide +kernel
theorem d_R_isOfWord_83 : decode prog_8_method_5_code 83 = .ok (.goto 4, 3) := by decide +kernel
set_option maxHeartbeats 4000000 in
set_option maxRecDepth 100000 in
theorem v_isOfWord (l : Launch) (D : va_G) (dA : Nat → ClassId) (sz : Nat) (z : Int32) : Met l ⟨"SeriesVault$SeriesReader", "isOfWord", "(I)Z"⟩ [Cond.code ⟨"SeriesVault$SeriesReader", "isOfWord", "(I)Z"⟩ prog_8_method_5_code 1 (some FieldType.boolean)] { frames := 1, cells := 0, slots := 0, locals := 0 } (pC D dA [.int z] ([]) sz) (va_Qi (fun (r9 : Int32) (u9 : Unit) => r9 = bI (isWd z)) (fun (u9 : Unit) t9 => bW D (va_A ([]) sz) ([]) t9) (va_A ([]) sz)) 0 0 (va_A ([]) sz) := by
  refine mkC (y := ⟨"SeriesVault$SeriesReader", "isOfWord", "(I)Z"⟩) (cc := prog_8_method_5_code) (maxL := 1) (av := [.int z]) (ws := []) (sz := sz) (Qc := fun A => va_Qi (fun (r9 : Int32) (u9 : Unit) => r9 = bI (isWd z)) (fun (u9 : Unit) t9 => bW D A ([]) t9) A) (by decide) (Nat.le_of_ble_eq_true rfl) ?_
  intro A p e s m below meth c ls hsz hB
  obtain ⟨hx, hb, hr, hml, hown, hin, hlk, hE, hK, hP, hD, hS, hA, hN, hl⟩ := hB
  have hown : s.vm.findClass "SeriesVault$SeriesReader" = some m.cls := hown
  have hl : lv_has ls 1 [(0, .int z)] := hl
  obtain ⟨H, hH⟩ : ∃ z, z = s.heap := ⟨_, rfl⟩
  have hP : va_P D vwCl ([]) H := by rw [hH]; exact hP
  have hS : va_S A s.heap H [] := by rw [hH]; exact hS
  rw [← hH]
  refine lv_iload_n hx hb d_R_isOfWord_0 rfl (lv_at hl 0 rfl) ?_
  rcases Classical.em (sp7 z) with h1 | h1
  · refine lv_lookup (x := z) (off := 67) (tgt := 68) hx hb d_R_isOfWord_1 (by decide) (lsw_hit h1) rfl ?_
    refine lv_iconst (v := 0) hx hb d_R_isOfWord_68 (by decide) ?_
    exact rfZ hx hb hr (bI_nar false) hlk hS () (by rw [isWd_h h1]; rfl) hP hD (Nat.le_of_ble_eq_true rfl) (Nat.le_of_ble_eq_true rfl) d_R_isOfWord_69
  · refine lv_lookup (x := z) (off := 69) (tgt := 70) hx hb d_R_isOfWord_1 (by decide) (lsw_no h1) rfl ?_
    refine lv_iload_n hx hb d_R_isOfWord_70 rfl (lv_at hl 0 rfl) ?_
    refine lv_bipush (v := 33) hx hb d_R_isOfWord_71 (by decide) ?_
    refine lv_icmp_lt hx hb d_R_isOfWord_73 (tgt := 86) rfl (fun g1 => ?_) (fun g1 => ?_)
    · have g1 := g1
      refine lv_iconst (v := 0) hx hb d_R_isOfWord_86 (by decide) ?_
      exact rfZ hx hb hr (bI_nar false) hlk hS () (by rw [isWd_no h1, decide_eq_true g1]; rfl) hP hD (Nat.le_of_ble_eq_true rfl) (Nat.le_of_ble_eq_true rfl) d_R_isOfWord_87
    · have g1 := g1
      refine lv_iload_n hx hb d_R_isOfWord_76 rfl (lv_at hl 0 rfl) ?_
      refine lv_bipush (v := 126) hx hb d_R_isOfWord_77 (by decide) ?_
      refine lv_icmp_gt hx hb d_R_isOfWord_79 (tgt := 86) rfl (fun g2 => ?_) (fun g2 => ?_)
      · have g2 := g2
        refine lv_iconst (v := 0) hx hb d_R_isOfWord_86 (by decide) ?_
        exact rfZ hx hb hr (bI_nar false) hlk hS () (by rw [isWd_no h1, decide_eq_false g1, decide_eq_true g2]; rfl) hP hD (Nat.le_of_ble_eq_true rfl) (Nat.le_of_ble_eq_true rfl) d_R_isOfWord_87
      · have g2 := g2
        refine lv_iconst (v := 1) hx hb d_R_isOfWord_82 (by decide) ?_
        refine lv_goto hx hb d_R_isOfWord_83 (tgt := 87) rfl ?_
        exact rfZ hx hb hr (bI_nar true) hlk hS () (by rw [isWd_no h1, decide_eq_false g1, decide_eq_false g2]; rfl) hP hD (Nat.le_of_ble_eq_true rfl) (Nat.le_of_ble_eq_true rfl) d_R_isOfWord_87
theorem d_R_wordEnd_18 : decode prog_8_method_4_code 18 = .ok (.aload_n 0, 1) := by decide +kernel
theorem d_R_wordEnd_19 : decode prog_8_method_4_code 19 = .ok (.iload 4, 2) := by decide +kernel
theorem d_R_wordEnd_21 : decode prog_8_method_4_code 21 = .ok (.baload, 1) := by decide +kernel
theorem d_R_wordEnd_22 : decode prog_8_method_4_code 22 = .ok (.invokestatic 45, 3) := by decide +kernel
theorem d_R_wordEnd_25 : decode prog_8_method_4_code 25 = .ok (.ifCond .eq 9, 3) := by decide +kernel
theorem d_R_wordEnd_28 : decode prog_8_method_4_code 28 = .ok (.iinc 4 1, 3) := by decide +kernel
theorem d_R_wordEnd_31 : decode prog_8_method_4_code 31 = .ok (.goto (-19), 3) := by decide +kernel
theorem w1291 : Cond.methodLink "SeriesVault$SeriesReader" 45 ⟨"SeriesVault$SeriesReader", "isOfWord", "(I)Z"⟩ ∈ aW := aw_of (tb_3 (List.mem_of_getElem? (i := 204) rfl)) rfl
theorem w1292 : Cond.code ⟨"SeriesVault$SeriesReader", "isOfWord", "(I)Z"⟩ prog_8_method_5_code 1 (some FieldType.boolean) ∈ aW := aw_of (tb_3 (List.mem_of_getElem? (i := 206) rfl)) rfl
theorem w1293 : Cond.static ⟨"SeriesVault$SeriesReader", "isOfWord", "(I)Z"⟩ ∈ aW := aw_of (tb_3 (List.mem_of_getElem? (i := 205) rfl)) rfl
set_option maxHeartbeats 4000000 in
set_option maxRecDepth 100000 in
theorem v_wordEnd (l : Launch) (D : va_G) (dA : Nat → ClassId) (sz : Nat) (ws : va_W) (arr : Nat) (n : Nat) (f : Nat → Int32) (len : Nat) (q : Nat) (m1 : (arr, .inl (dA 0, n, .inl f)) ∈ ws) (h1 : q ≤ len) (h2 : len ≤ n) (h3 : n ≤ 131072) : Met l ⟨"SeriesVault$SeriesReader", "wordEnd", "([BII)I"⟩ [Cond.code ⟨"SeriesVault$SeriesReader", "wordEnd", "([BII)I"⟩ prog_8_method_4_code 5 (some FieldType.int)] { frames := 2, cells := 0, slots := 0, locals := 20 } (pC D dA [.ref arr, .int (nI len), .int (nI q)] (ws) sz) (va_Qi (fun (r9 : Int32) (u9 : Unit) => r9 = nI (q + wlen f len 24 q)) (fun (u9 : Unit) t9 => bW D (va_A (ws) sz) (ws) t9) (va_A (ws) sz)) 0 0 (va_A (ws) sz) := by
  refine mkC (y := ⟨"SeriesVault$SeriesReader", "wordEnd", "([BII)I"⟩) (cc := prog_8_method_4_code) (maxL := 5) (av := [.ref arr, .int (nI len), .int (nI q)]) (ws := ws) (sz := sz) (Qc := fun A => va_Qi (fun (r9 : Int32) (u9 : Unit) => r9 = nI (q + wlen f len 24 q)) (fun (u9 : Unit) t9 => bW D A (ws) t9) A) (by decide) (Nat.le_of_ble_eq_true rfl) ?_
  intro A p e s m below meth c ls hsz hB
  obtain ⟨hx, hb, hr, hml, hown, hin, hlk, hE, hK, hP, hD, hS, hA, hN, hl⟩ := hB
  have hown : s.vm.findClass "SeriesVault$SeriesReader" = some m.cls := hown
  have hl : lv_has ls 5 [(0, .ref arr), (1, .int (nI len)), (2, .int (nI q))] := hl
  obtain ⟨H, hH⟩ : ∃ z, z = s.heap := ⟨_, rfl⟩
  have hP : va_P D vwCl (ws) H := by rw [hH]; exact hP
  have hS : va_S A s.heap H [] := by rw [hH]; exact hS
  rw [← hH]
  refine lv_iload_n hx hb d_R_wordEnd_0 rfl (lv_at hl 1 rfl) ?_
  refine lv_iload_n hx hb d_R_wordEnd_1 rfl (lv_at hl 2 rfl) ?_
  refine lv_bipush (v := 24) hx hb d_R_wordEnd_2 (by decide) ?_
  refine lv_iadd hx hb d_R_wordEnd_4 (tpi (y := nI (q + 24)) (nI_add (q) (24)) ?_)
  refine va_mmin hx hb (hml.trans hl.1.symm) hown (hE.t w592 rfl) (hE.t w548 rfl) (hE.t w549 rfl) (hE.t w550 rfl) (Nat.le_of_ble_eq_true rfl) (Nat.le_of_ble_eq_true rfl) (Nat.le_of_ble_eq_true rfl) (Nat.le_of_ble_eq_true rfl) d_R_wordEnd_5 (tpi (y := nI (min len (q + 24))) (nI_min (a := len) (b := q + 24) (by omega) (by omega)) ?_)
  refine lv_istore_n hx hb d_R_wordEnd_8 rfl hl (by decide) rfl (fun ls hl => ?_)
  have hl : lv_has ls 5 [(3, .int (nI (min len (q + 24)))), (0, .ref arr), (1, .int (nI len)), (2, .int (nI q))] := hl
  refine lv_iload_n hx hb d_R_wordEnd_9 rfl (lv_at hl 3 rfl) ?_
  refine lv_istore hx hb d_R_wordEnd_10 hl (by decide) rfl (fun ls hl => ?_)
  have hl : lv_has ls 5 [(4, .int (nI q)), (3, .int (nI (min len (q + 24)))), (0, .ref arr), (1, .int (nI len)), (2, .int (nI q))] := hl
  have L12 : ∀ (k9 : Nat) (k : Nat) (i1 : k ≤ 24) (i2 : q + k ≤ len) (i3 : wlen f len 24 q = k + wlen f len (24 - k) (q + k)) (hk9 : 24 - k = k9), ∀ (H : Heap) (locs : List Loc) (ls : Array Slot) (hP : va_P D vwCl (ws) H) (hD : va_D A (ws)) (hS : va_S A s.heap H locs) (hl : lv_has ls 5 [(4, .int (nI (q + k))), (3, .int (nI (min len (q + 24)))), (0, .ref arr), (1, .int (nI len)), (2, .int (nI q))]), W p l e ({ frames := 2, cells := 0, slots := 0, locals := 20 } : Room) s m ([.ref arr, .int (nI len), .int (nI q)] : List Value).toArray below meth c H locs 0 0 (MQ below (va_Qi (fun (r9 : Int32) (u9 : Unit) => r9 = nI (q + wlen f len 24 q)) (fun (u9 : Unit) t9 => bW D A (ws) t9) A) ([.ref arr, .int (nI len), .int (nI q)] : List Value).toArray s 0 0 A) (F0 m 12 ls []) := by
    intro k9
    induction k9 using Nat.strongRecOn with
    | ind k9 ih12 =>
      intro k i1 i2 i3 hk9 H locs ls hP hD hS hl
      refine lv_iload hx hb d_R_wordEnd_12 (lv_at hl 0 rfl) ?_
      refine lv_iload_n hx hb d_R_wordEnd_14 rfl (lv_at hl 1 rfl) ?_
      refine lv_icmp_ge hx hb d_R_wordEnd_15 (tgt := 34) rfl (fun g1 => ?_) (fun g1 => ?_)
      · have g1 := (nI_leI (a := min len (q + 24)) (b := q + k) (by omega) (by omega)).mp g1
        refine lv_iload hx hb d_R_wordEnd_34 (lv_at hl 0 rfl) ?_
        exact rfI hx hb hr hlk hS () (by rw [i3, wlen_e (by omega), Nat.add_zero]) hP hD (Nat.le_of_ble_eq_true rfl) (Nat.le_of_ble_eq_true rfl) d_R_wordEnd_36
      · have g1 := mt (nI_leI (a := min len (q + 24)) (b := q + k) (by omega) (by omega)).mpr g1
        refine lv_aload_n hx hb d_R_wordEnd_18 rfl (lv_at hl 2 rfl) ?_
        refine lv_iload hx hb d_R_wordEnd_19 (lv_at hl 0 rfl) ?_
        obtain ⟨qp2, ep3⟩ := List.getElem?_of_mem (show ((arr, .inl (dA 0, n, .inl f)) : Nat × va_E) ∈ ws from m1)
        refine nbld (f := f) (n := n) hx hb hK hP (qp2) 0 ep3 rfl (q + k) (by omega) (by omega) d_R_wordEnd_21 ?_
        have hPc := hP.sub (ws' := []) [] rfl
        have hDc := hD.sub (ws' := []) [] (by decide) rfl
        refine jpI (rnS (As := [.int (f (q + k))]) (rest := []) hx hb hml hown hE hK (hN _ _ hS) hPc hDc (v_isOfWord l D dA H.size (f (q + k))) w1292 w1291 w1293 w596 rfl rfl ⟨⟨by decide, by decide⟩, rfl⟩ ⟨(Nat.le_of_ble_eq_true rfl), (Nat.le_of_ble_eq_true rfl)⟩ rfl hl.1 rfl (Nat.le_of_ble_eq_true rfl) d_R_wordEnd_22 ⟨(Nat.le_of_ble_eq_true rfl), (Nat.le_of_ble_eq_true rfl)⟩) hP hD hS hA (fun r4 u9 H locs hp9 hP hD hS => ?_)
        have hP : va_P D vwCl (ws) H := hP
        have hD : va_D A (ws) := hD
        replace hp9 : bI (isWd (f (q + k))) = r4 := Eq.symm hp9
        subst hp9
        refine lv_if_eq hx hb d_R_wordEnd_25 (tgt := 34) rfl (fun g6 => ?_) (fun g6 => ?_)
        · have g6 := bI_0 g6
          refine lv_iload hx hb d_R_wordEnd_34 (lv_at hl 0 rfl) ?_
          exact rfI hx hb hr hlk hS () (by rw [i3, wlen_f g6, Nat.add_zero]) hP hD (Nat.le_of_ble_eq_true rfl) (Nat.le_of_ble_eq_true rfl) d_R_wordEnd_36
        · have g6 := bI_n0 g6
          refine lv_iinc (k := 0) (v := nI (q + k + 1)) hx hb d_R_wordEnd_28 hl rfl (iincN (q + k) 1 1 (by decide)) (by decide) rfl (fun ls hl => ?_)
          have hl : lv_has ls 5 [(4, .int (nI (q + k + 1))), (3, .int (nI (min len (q + 24)))), (0, .ref arr), (1, .int (nI len)), (2, .int (nI q))] := hl
          refine lv_goto hx hb d_R_wordEnd_31 (tgt := 12) rfl ?_
          exact ih12 _ (by omega) (k + 1) (by omega) (by omega) (by rw [i3, wlen_t (w := 24 - k) (by omega) (by omega) g6, show 24 - k - 1 = 24 - (k + 1) by omega, show q + k + 1 = q + (k + 1) by omega]; omega) rfl H _ ls hP hD hS (lv_sub hl [0, 1, 2, 3, 4] rfl)
  exact L12 _ 0 (by omega) (by omega) (by rw [Nat.zero_add]; rfl) rfl H _ ls hP hD hS (lv_sub hl [0, 1, 2, 3, 4] rfl)
theorem d_R_sameBytes_0 : decode prog_8_method_7_code 0 = .ok (.iload_n 2, 1) := by decide +kernel
theorem d_R_sameBytes_1 : decode prog_8_method_7_code 1 = .ok (.iload_n 1, 1) := by decide +kernel
theorem d_R_sameBytes_2 : decode prog_8_method_7_code 2 = .ok (.isub, 1) := by decide +kernel
theorem d_R_sameBytes_3 : decode prog_8_method_7_code 3 = .ok (.iload 4, 2) := by decide +kernel
theorem d_R_sameBytes_5 : decode prog_8_method_7_code 5 = .ok (.iload_n 3, 1) := by decide +kernel
theorem d_R_sameBytes_6 : decode prog_8_method_7_code 6 = .ok (.isub, 1) := by decide +kernel
theorem d_R_sameBytes_7 : decode prog_8_method_7_code 7 = .ok (.if_icmp .eq 5, 3) := by decide +kernel
theorem d_R_sameBytes_12 : decode prog_8_method_7_code 12 = .ok (.iconst 0, 1) := by decide +kernel
theorem d_R_sameBytes_13 : decode prog_8_method_7_code 13 = .ok (.istore 5, 2) := by decide +kernel
theorem d_R_sameBytes_15 : decode prog_8_method_7_code 15 = .ok (.iload 5, 2) := by decide +kernel
theorem d_R_sameBytes_17 : decode prog_8_method_7_code 17 = .ok (.iload_n 2, 1) := by decide +kernel
theorem d_R_sameBytes_18 : decode prog_8_method_7_code 18 = .ok (.iload_n 1, 1) := by decide +kernel
theorem d_R_sameBytes_19 : decode prog_8_method_7_code 19 = .ok (.isub, 1) := by decide +kernel
theorem d_R_sameBytes_20 : decode prog_8_method_7_code 20 = .ok (.if_icmp .ge 26, 3) := by decide +kernel
theorem d_R_sameBytes_46 : decode prog_8_method_7_code 46 = .ok (.iconst 1, 1) := by decide +kernel
theorem d_R_sameBytes_47 : decode prog_8_method_7_code 47 = .ok (.ireturn, 1) := by decide +kernel
theorem d_R_sameBytes_23 : decode prog_8_method_7_code 23 = .ok (.aload_n 0, 1) := by decide +kernel
theorem d_R_sameBytes_24 : decode prog_8_method_7_code 24 = .ok (.iload_n 1, 1) := by decide +kernel
theorem d_R_sameBytes_25 : decode prog_8_method_7_code 25 = .ok (.iload 5, 2) := by decide +kernel
theorem d_R_sameBytes_27 : decode prog_8_method_7_code 27 = .ok (.iadd, 1) := by decide +kernel
theorem d_R_sameBytes_28 : decode prog_8_method_7_code 28 = .ok (.baload, 1) := by decide +kernel
theorem d_R_sameBytes_29 : decode prog_8_method_7_code 29 = .ok (.aload_n 0, 1) := by decide +kernel
theorem d_R_sameBytes_30 : decode prog_8_method_7_code 30 = .ok (.iload_n 3, 1) := by decide +kernel
theorem d_R_sameBytes_31 : decode prog_8_method_7_code 31 = .ok (.iload 5, 2) := by decide +kernel
theorem d_R_sameBytes_33 : decode prog_8_method_7_code 33 = .ok (.iadd, 1) := by decide +kernel
theorem d_R_sameBytes_34 : decode prog_8_method_7_code 34 = .ok (.baload, 1) := by decide +kernel
theorem d_R_sameBytes_35 : decode prog_8_method_7_code 35 = .ok (.if_icmp .eq 5, 3) := by decide +kernel
theorem d_R_sameBytes_40 : decode prog_8_method_7_code 40 = .ok (.iinc 5 1, 3) := by decide +kernel
theorem d_R_sameBytes_43 : decode prog_8_method_7_code 43 = .ok (.goto (-28), 3) := by decide +kernel
theorem d_R_sameBytes_38 : decode prog_8_method_7_code 38 = .ok (.iconst 0, 1) := by decide +kernel
theorem d_R_sameBytes_39 : decode prog_8_method_7_code 39 = .ok (.ireturn, 1) := by decide +kernel
theorem d_R_sameBytes_10 : decode prog_8_method_7_code 10 = .ok (.iconst 0, 1) := by decide +kernel
theorem d_R_sameBytes_11 : decode prog_8_method_7_code 11 = .ok (.ireturn, 1) := by decide +kernel
set_option maxHeartbeats 4000000 in
set_option maxRecDepth 100000 in
theorem v_sameBytes (l : Launch) (D : va_G) (dA : Nat → ClassId) (sz : Nat) (ws : va_W) (arr : Nat) (n : Nat) (f : Nat → Int32) (a : Nat) (b : Nat) (a2 : Nat) (b2 : Nat) (m1 : (arr, .inl (dA 0, n, .inl f)) ∈ ws) (h1 : a ≤ b) (h2 : a2 ≤ b2) (h3 : b ≤ n) (h4 : b2 ≤ n) (h5 : n ≤ 131072) : Met l ⟨"SeriesVault$SeriesReader", "sameBytes", "([BIIII)Z"⟩ [Cond.code ⟨"SeriesVault$SeriesReader", "sameBytes", "([BIIII)Z"⟩ prog_8_method_7_code 6 (some FieldType.boolean)] { frames := 1, cells := 0, slots := 0, locals := 0 } (pC D dA [.ref arr, .int (nI a), .int (nI b), .int (nI a2), .int (nI b2)] (ws) sz) (va_Qi (fun (r9 : Int32) (u9 : Unit) => r9 = bI (sbB f a b a2 b2)) (fun (u9 : Unit) t9 => bW D (va_A (ws) sz) (ws) t9) (va_A (ws) sz)) 0 0 (va_A (ws) sz) := by
  refine mkC (y := ⟨"SeriesVault$SeriesReader", "sameBytes", "([BIIII)Z"⟩) (cc := prog_8_method_7_code) (maxL := 6) (av := [.ref arr, .int (nI a), .int (nI b), .int (nI a2), .int (nI b2)]) (ws := ws) (sz := sz) (Qc := fun A => va_Qi (fun (r9 : Int32) (u9 : Unit) => r9 = bI (sbB f a b a2 b2)) (fun (u9 : Unit) t9 => bW D A (ws) t9) A) (by decide) (Nat.le_of_ble_eq_true rfl) ?_
  intro A p e s m below meth c ls hsz hB
  obtain ⟨hx, hb, hr, hml, hown, hin, hlk, hE, hK, hP, hD, hS, hA, hN, hl⟩ := hB
  have hown : s.vm.findClass "SeriesVault$SeriesReader" = some m.cls := hown
  have hl : lv_has ls 6 [(0, .ref arr), (1, .int (nI a)), (2, .int (nI b)), (3, .int (nI a2)), (4, .int (nI b2))] := hl
  obtain ⟨H, hH⟩ : ∃ z, z = s.heap := ⟨_, rfl⟩
  have hP : va_P D vwCl (ws) H := by rw [hH]; exact hP
  have hS : va_S A s.heap H [] := by rw [hH]; exact hS
  rw [← hH]
  refine lv_iload_n hx hb d_R_sameBytes_0 rfl (lv_at hl 2 rfl) ?_
  refine lv_iload_n hx hb d_R_sameBytes_1 rfl (lv_at hl 1 rfl) ?_
  refine lv_isub hx hb d_R_sameBytes_2 (tpi (y := nI (b - a)) (pk_sub (a := b) (b := a) (by omega)) ?_)
  refine lv_iload hx hb d_R_sameBytes_3 (lv_at hl 4 rfl) ?_
  refine lv_iload_n hx hb d_R_sameBytes_5 rfl (lv_at hl 3 rfl) ?_
  refine lv_isub hx hb d_R_sameBytes_6 (tpi (y := nI (b2 - a2)) (pk_sub (a := b2) (b := a2) (by omega)) ?_)
  refine lv_icmp_eq hx hb d_R_sameBytes_7 (tgt := 12) rfl (fun g1 => ?_) (fun g1 => ?_)
  · have g1 := (nI_eq (a := b - a) (b := b2 - a2) (by omega) (by omega)).mp g1
    refine lv_iconst (v := 0) hx hb d_R_sameBytes_12 (by decide) ?_
    refine lv_istore hx hb d_R_sameBytes_13 hl (by decide) rfl (fun ls hl => ?_)
    have hl : lv_has ls 6 [(5, .int 0), (0, .ref arr), (1, .int (nI a)), (2, .int (nI b)), (3, .int (nI a2)), (4, .int (nI b2))] := hl
    have L15 : ∀ (k9 : Nat) (i : Nat) (i1 : i ≤ b - a) (i2 : allB i (txQ f a a2) = true) (hk9 : b - a - i = k9), ∀ (H : Heap) (locs : List Loc) (ls : Array Slot) (hP : va_P D vwCl (ws) H) (hD : va_D A (ws)) (hS : va_S A s.heap H locs) (hl : lv_has ls 6 [(5, .int (nI i)), (0, .ref arr), (1, .int (nI a)), (2, .int (nI b)), (3, .int (nI a2)), (4, .int (nI b2))]), W p l e ({ frames := 1, cells := 0, slots := 0, locals := 0 } : Room) s m ([.ref arr, .int (nI a), .int (nI b), .int (nI a2), .int (nI b2)] : List Value).toArray below meth c H locs 0 0 (MQ below (va_Qi (fun (r9 : Int32) (u9 : Unit) => r9 = bI (sbB f a b a2 b2)) (fun (u9 : Unit) t9 => bW D A (ws) t9) A) ([.ref arr, .int (nI a), .int (nI b), .int (nI a2), .int (nI b2)] : List Value).toArray s 0 0 A) (F0 m 15 ls []) := by
      intro k9
      induction k9 using Nat.strongRecOn with
      | ind k9 ih15 =>
        intro i i1 i2 hk9 H locs ls hP hD hS hl
        refine lv_iload hx hb d_R_sameBytes_15 (lv_at hl 0 rfl) ?_
        refine lv_iload_n hx hb d_R_sameBytes_17 rfl (lv_at hl 3 rfl) ?_
        refine lv_iload_n hx hb d_R_sameBytes_18 rfl (lv_at hl 2 rfl) ?_
        refine lv_isub hx hb d_R_sameBytes_19 (tpi (y := nI (b - a)) (pk_sub (a := b) (b := a) (by omega)) ?_)
        refine lv_icmp_ge hx hb d_R_sameBytes_20 (tgt := 46) rfl (fun g2 => ?_) (fun g2 => ?_)
        · have g2 := (nI_leI (a := b - a) (b := i) (by omega) (by omega)).mp g2
          refine lv_iconst (v := 1) hx hb d_R_sameBytes_46 (by decide) ?_
          exact rfZ hx hb hr (bI_nar true) hlk hS () (by unfold sbB; rw [decide_eq_true (by omega), Bool.true_and, ← show i = b - a by omega, i2]; rfl) hP hD (Nat.le_of_ble_eq_true rfl) (Nat.le_of_ble_eq_true rfl) d_R_sameBytes_47
        · have g2 := mt (nI_leI (a := b - a) (b := i) (by omega) (by omega)).mpr g2
          refine lv_aload_n hx hb d_R_sameBytes_23 rfl (lv_at hl 1 rfl) ?_
          refine lv_iload_n hx hb d_R_sameBytes_24 rfl (lv_at hl 2 rfl) ?_
          refine lv_iload hx hb d_R_sameBytes_25 (lv_at hl 0 rfl) ?_
          refine lv_iadd hx hb d_R_sameBytes_27 (tpi (y := nI (a + i)) (nI_add (a) (i)) ?_)
          obtain ⟨qp3, ep4⟩ := List.getElem?_of_mem (show ((arr, .inl (dA 0, n, .inl f)) : Nat × va_E) ∈ ws from m1)
          refine nbld (f := f) (n := n) hx hb hK hP (qp3) 0 ep4 rfl (a + i) (by omega) (by omega) d_R_sameBytes_28 ?_
          refine lv_aload_n hx hb d_R_sameBytes_29 rfl (lv_at hl 1 rfl) ?_
          refine lv_iload_n hx hb d_R_sameBytes_30 rfl (lv_at hl 4 rfl) ?_
          refine lv_iload hx hb d_R_sameBytes_31 (lv_at hl 0 rfl) ?_
          refine lv_iadd hx hb d_R_sameBytes_33 (tpi (y := nI (a2 + i)) (nI_add (a2) (i)) ?_)
          obtain ⟨qp5, ep6⟩ := List.getElem?_of_mem (show ((arr, .inl (dA 0, n, .inl f)) : Nat × va_E) ∈ ws from m1)
          refine nbld (f := f) (n := n) hx hb hK hP (qp5) 0 ep6 rfl (a2 + i) (by omega) (by omega) d_R_sameBytes_34 ?_
          refine lv_icmp_eq hx hb d_R_sameBytes_35 (tgt := 40) rfl (fun g7 => ?_) (fun g7 => ?_)
          · have g7 := g7
            refine lv_iinc (k := 0) (v := nI (i + 1)) hx hb d_R_sameBytes_40 hl rfl (iincN (i) 1 1 (by decide)) (by decide) rfl (fun ls hl => ?_)
            have hl : lv_has ls 6 [(5, .int (nI (i + 1))), (0, .ref arr), (1, .int (nI a)), (2, .int (nI b)), (3, .int (nI a2)), (4, .int (nI b2))] := hl
            refine lv_goto hx hb d_R_sameBytes_43 (tgt := 15) rfl ?_
            exact ih15 _ (by omega) (i + 1) (by omega) (by rw [allB_s, i2, Bool.true_and]; exact decide_eq_true g7) rfl H _ ls hP hD hS (lv_sub hl [0, 1, 2, 3, 4, 5] rfl)
          · have g7 := g7
            refine lv_iconst (v := 0) hx hb d_R_sameBytes_38 (by decide) ?_
            exact rfZ hx hb hr (bI_nar false) hlk hS () (by unfold sbB; rw [allB_1 (f := txQ f a a2) (k := i) (n := b - a) (by omega) (decide_eq_false g7), Bool.and_false]; rfl) hP hD (Nat.le_of_ble_eq_true rfl) (Nat.le_of_ble_eq_true rfl) d_R_sameBytes_39
    exact L15 _ 0 (Nat.zero_le _) rfl rfl H _ ls hP hD hS (lv_sub hl [0, 1, 2, 3, 4, 5] rfl)
  · have g1 := mt (nI_eq (a := b - a) (b := b2 - a2) (by omega) (by omega)).mpr g1
    refine lv_iconst (v := 0) hx hb d_R_sameBytes_10 (by decide) ?_
    exact rfZ hx hb hr (bI_nar false) hlk hS () (by unfold sbB; rw [decide_eq_false g1]; rfl) hP hD (Nat.le_of_ble_eq_true rfl) (Nat.le_of_ble_eq_true rfl) d_R_sameBytes_11
theorem d_R_isThereAlready_0 : decode prog_8_method_6_code 0 = .ok (.iconst 0, 1) := by decide +kernel
theorem d_R_isThereAlready_1 : decode prog_8_method_6_code 1 = .ok (.istore 4, 2) := by decide +kernel
theorem d_R_isThereAlready_3 : decode prog_8_method_6_code 3 = .ok (.iload 4, 2) := by decide +kernel
theorem d_R_isThereAlready_5 : decode prog_8_method_6_code 5 = .ok (.aload_n 0, 1) := by decide +kernel
theorem d_R_isThereAlready_6 : decode prog_8_method_6_code 6 = .ok (.getfield 21, 3) := by decide +kernel
theorem d_R_isThereAlready_9 : decode prog_8_method_6_code 9 = .ok (.if_icmp .ge 34, 3) := by decide +kernel
theorem d_R_isThereAlready_43 : decode prog_8_method_6_code 43 = .ok (.iconst 0, 1) := by decide +kernel
theorem d_R_isThereAlready_44 : decode prog_8_method_6_code 44 = .ok (.ireturn, 1) := by decide +kernel
theorem d_R_isThereAlready_12 : decode prog_8_method_6_code 12 = .ok (.aload_n 1, 1) := by decide +kernel
theorem d_R_isThereAlready_13 : decode prog_8_method_6_code 13 = .ok (.aload_n 0, 1) := by decide +kernel
theorem d_R_isThereAlready_14 : decode prog_8_method_6_code 14 = .ok (.getfield 9, 3) := by decide +kernel
theorem d_R_isThereAlready_17 : decode prog_8_method_6_code 17 = .ok (.iload 4, 2) := by decide +kernel
theorem d_R_isThereAlready_19 : decode prog_8_method_6_code 19 = .ok (.iaload, 1) := by decide +kernel
theorem d_R_isThereAlready_20 : decode prog_8_method_6_code 20 = .ok (.aload_n 0, 1) := by decide +kernel
theorem d_R_isThereAlready_21 : decode prog_8_method_6_code 21 = .ok (.getfield 15, 3) := by decide +kernel
theorem d_R_isThereAlready_24 : decode prog_8_method_6_code 24 = .ok (.iload 4, 2) := by decide +kernel
theorem d_R_isThereAlready_26 : decode prog_8_method_6_code 26 = .ok (.iaload, 1) := by decide +kernel
theorem d_R_isThereAlready_27 : decode prog_8_method_6_code 27 = .ok (.iload_n 2, 1) := by decide +kernel
theorem d_R_isThereAlready_28 : decode prog_8_method_6_code 28 = .ok (.iload_n 3, 1) := by decide +kernel
theorem d_R_isThereAlready_29 : decode prog_8_method_6_code 29 = .ok (.invokestatic 49, 3) := by decide +kernel
theorem d_R_isThereAlready_32 : decode prog_8_method_6_code 32 = .ok (.ifCond .eq 5, 3) := by decide +kernel
theorem d_R_isThereAlready_37 : decode prog_8_method_6_code 37 = .ok (.iinc 4 1, 3) := by decide +kernel
theorem d_R_isThereAlready_40 : decode prog_8_method_6_code 40 = .ok (.goto (-37), 3) := by decide +kernel
theorem d_R_isThereAlready_35 : decode prog_8_method_6_code 35 = .ok (.iconst 1, 1) := by decide +kernel
theorem d_R_isThereAlready_36 : decode prog_8_method_6_code 36 = .ok (.ireturn, 1) := by decide +kernel
theorem w1294 : Cond.methodLink "SeriesVault$SeriesReader" 49 ⟨"SeriesVault$SeriesReader", "sameBytes", "([BIIII)Z"⟩ ∈ aW := aw_of (tb_3 (List.mem_of_getElem? (i := 215) rfl)) rfl
theorem w1295 : Cond.code ⟨"SeriesVault$SeriesReader", "sameBytes", "([BIIII)Z"⟩ prog_8_method_7_code 6 (some FieldType.boolean) ∈ aW := aw_of (tb_3 (List.mem_of_getElem? (i := 217) rfl)) rfl
theorem w1296 : Cond.static ⟨"SeriesVault$SeriesReader", "sameBytes", "([BIIII)Z"⟩ ∈ aW := aw_of (tb_3 (List.mem_of_getElem? (i := 216) rfl)) rfl
set_option maxHeartbeats 4000000 in
set_option maxRecDepth 100000 in
theorem v_isThereAlready (l : Launch) (D : va_G) (dA : Nat → ClassId) (sz : Nat) (h : Nat) (ad : Nat → Nat) (x : VS) (q : Nat) (e1 : Nat) (len : Nat) (h1 : q ≤ e1) (h2 : e1 ≤ x.tpN) (h3 : x.tpN ≤ 131072) (h4 : x.rlab ≤ 6) (h5 : lbOk len x.rlab x.rS x.rE x.rV) (h6 : len ≤ x.tpN) : Met l ⟨"SeriesVault$SeriesReader", "isThereAlready", "([BII)Z"⟩ [Cond.code ⟨"SeriesVault$SeriesReader", "isThereAlready", "([BII)Z"⟩ prog_8_method_6_code 5 (some FieldType.boolean)] { frames := 2, cells := 0, slots := 0, locals := 25 } (pC D dA [.ref (ad 18), .ref x.tpA, .int (nI q), .int (nI e1)] (VW dA h ad x) sz) (va_Qi (fun (r9 : Int32) (u9 : Unit) => r9 = bI (anyB x.rlab (taC x.tape x.rS x.rE q e1))) (fun (u9 : Unit) t9 => bW D (va_A (VW dA h ad x) sz) (VW dA h ad x) t9) (va_A (VW dA h ad x) sz)) 0 0 (va_A (VW dA h ad x) sz) := by
  refine mkC (y := ⟨"SeriesVault$SeriesReader", "isThereAlready", "([BII)Z"⟩) (cc := prog_8_method_6_code) (maxL := 5) (av := [.ref (ad 18), .ref x.tpA, .int (nI q), .int (nI e1)]) (ws := VW dA h ad x) (sz := sz) (Qc := fun A => va_Qi (fun (r9 : Int32) (u9 : Unit) => r9 = bI (anyB x.rlab (taC x.tape x.rS x.rE q e1))) (fun (u9 : Unit) t9 => bW D A (VW dA h ad x) t9) A) (by decide) (Nat.le_of_ble_eq_true rfl) ?_
  intro A p e s m below meth c ls hsz hB
  obtain ⟨hx, hb, hr, hml, hown, hin, hlk, hE, hK, hP, hD, hS, hA, hN, hl⟩ := hB
  have hown : s.vm.findClass "SeriesVault$SeriesReader" = some m.cls := hown
  have hl : lv_has ls 5 [(0, .ref (ad 18)), (1, .ref x.tpA), (2, .int (nI q)), (3, .int (nI e1))] := hl
  obtain ⟨H, hH⟩ : ∃ z, z = s.heap := ⟨_, rfl⟩
  have hP : va_P D vwCl (VW dA h ad x) H := by rw [hH]; exact hP
  have hS : va_S A s.heap H [] := by rw [hH]; exact hS
  rw [← hH]
  refine lv_iconst (v := 0) hx hb d_R_isThereAlready_0 (by decide) ?_
  refine lv_istore hx hb d_R_isThereAlready_1 hl (by decide) rfl (fun ls hl => ?_)
  have hl : lv_has ls 5 [(4, .int 0), (0, .ref (ad 18)), (1, .ref x.tpA), (2, .int (nI q)), (3, .int (nI e1))] := hl
  have L3 : ∀ (k9 : Nat) (k : Nat) (i1 : k ≤ x.rlab) (i2 : anyB k (taC x.tape x.rS x.rE q e1) = false) (hk9 : x.rlab - k = k9), ∀ (H : Heap) (locs : List Loc) (ls : Array Slot) (hP : va_P D vwCl (VW dA h ad x) H) (hD : va_D A (VW dA h ad x)) (hS : va_S A s.heap H locs) (hl : lv_has ls 5 [(4, .int (nI k)), (0, .ref (ad 18)), (1, .ref x.tpA), (2, .int (nI q)), (3, .int (nI e1))]), W p l e ({ frames := 2, cells := 0, slots := 0, locals := 25 } : Room) s m ([.ref (ad 18), .ref x.tpA, .int (nI q), .int (nI e1)] : List Value).toArray below meth c H locs 0 0 (MQ below (va_Qi (fun (r9 : Int32) (u9 : Unit) => r9 = bI (anyB x.rlab (taC x.tape x.rS x.rE q e1))) (fun (u9 : Unit) t9 => bW D A (VW dA h ad x) t9) A) ([.ref (ad 18), .ref x.tpA, .int (nI q), .int (nI e1)] : List Value).toArray s 0 0 A) (F0 m 3 ls []) := by
    intro k9
    induction k9 using Nat.strongRecOn with
    | ind k9 ih3 =>
      intro k i1 i2 hk9 H locs ls hP hD hS hl
      refine lv_iload hx hb d_R_isThereAlready_3 (lv_at hl 0 rfl) ?_
      refine lv_aload_n hx hb d_R_isThereAlready_5 rfl (lv_at hl 1 rfl) ?_
      refine gF (v := .int (nI x.rlab)) hx hb hown hE hK hP 32 rfl rfl layR 3 (by decide) w603 rfl d_R_isThereAlready_6 ?_
      refine lv_icmp_ge hx hb d_R_isThereAlready_9 (tgt := 43) rfl (fun g1 => ?_) (fun g1 => ?_)
      · have g1 := (nI_leI (a := x.rlab) (b := k) (by omega) (by omega)).mp g1
        refine lv_iconst (v := 0) hx hb d_R_isThereAlready_43 (by decide) ?_
        exact rfZ hx hb hr (bI_nar false) hlk hS () (by rw [← show k = x.rlab by omega, i2]; rfl) hP hD (Nat.le_of_ble_eq_true rfl) (Nat.le_of_ble_eq_true rfl) d_R_isThereAlready_44
      · have g1 := mt (nI_leI (a := x.rlab) (b := k) (by omega) (by omega)).mpr g1
        have b5 := h5 k (by omega)
        refine lv_aload_n hx hb d_R_isThereAlready_12 rfl (lv_at hl 2 rfl) ?_
        refine lv_aload_n hx hb d_R_isThereAlready_13 rfl (lv_at hl 1 rfl) ?_
        refine gF (v := .ref (ad 19)) hx hb hown hE hK hP 32 rfl rfl layR 0 (by decide) w206 rfl d_R_isThereAlready_14 ?_
        refine lv_iload hx hb d_R_isThereAlready_17 (lv_at hl 0 rfl) ?_
        refine nild (f := (fun z9 => nI (x.rS z9))) (n := 6) hx hb hK hP (33) 1 rfl rfl (k) (by omega) (by decide) d_R_isThereAlready_19 ?_
        refine lv_aload_n hx hb d_R_isThereAlready_20 rfl (lv_at hl 1 rfl) ?_
        refine gF (v := .ref (ad 20)) hx hb hown hE hK hP 32 rfl rfl layR 1 (by decide) w207 rfl d_R_isThereAlready_21 ?_
        refine lv_iload hx hb d_R_isThereAlready_24 (lv_at hl 0 rfl) ?_
        refine nild (f := (fun z9 => nI (x.rE z9))) (n := 6) hx hb hK hP (34) 1 rfl rfl (k) (by omega) (by decide) d_R_isThereAlready_26 ?_
        refine lv_iload_n hx hb d_R_isThereAlready_27 rfl (lv_at hl 3 rfl) ?_
        refine lv_iload_n hx hb d_R_isThereAlready_28 rfl (lv_at hl 4 rfl) ?_
        refine jkI (wr := []) (rnS (As := [.ref x.tpA, .int (nI (x.rS k)), .int (nI (x.rE k)), .int (nI q), .int (nI e1)]) (rest := []) hx hb hml hown hE hK (hN _ _ hS) hP hD (v_sameBytes l D dA H.size (VW dA h ad x) x.tpA x.tpN x.tape (x.rS k) (x.rE k) q e1 (List.mem_of_getElem? (i := 1) rfl) (show (x.rS k) ≤ (x.rE k) from by omega) (show q ≤ e1 from by omega) (show (x.rE k) ≤ x.tpN from by omega) (show e1 ≤ x.tpN from by omega) (show x.tpN ≤ 131072 from by omega)) w1295 w1294 w1296 w596 rfl rfl ⟨⟨by decide, by decide⟩, rfl⟩ ⟨(Nat.le_of_ble_eq_true rfl), (Nat.le_of_ble_eq_true rfl)⟩ rfl hl.1 rfl (Nat.le_of_ble_eq_true rfl) d_R_isThereAlready_29 ⟨(Nat.le_of_ble_eq_true rfl), (Nat.le_of_ble_eq_true rfl)⟩) hP hD hS hA (fun r2 u3 H locs hp9 hP hD hS => ?_)
        have hP : va_P D vwCl (VW dA h ad x) H := hP
        have hD : va_D A (VW dA h ad x) := hD
        replace hp9 : bI (sbB x.tape (x.rS k) (x.rE k) q e1) = r2 := Eq.symm hp9
        subst hp9
        refine lv_if_eq hx hb d_R_isThereAlready_32 (tgt := 37) rfl (fun g4 => ?_) (fun g4 => ?_)
        · have g4 := bI_0 g4
          refine lv_iinc (k := 0) (v := nI (k + 1)) hx hb d_R_isThereAlready_37 hl rfl (iincN (k) 1 1 (by decide)) (by decide) rfl (fun ls hl => ?_)
          have hl : lv_has ls 5 [(4, .int (nI (k + 1))), (0, .ref (ad 18)), (1, .ref x.tpA), (2, .int (nI q)), (3, .int (nI e1))] := hl
          refine lv_goto hx hb d_R_isThereAlready_40 (tgt := 3) rfl ?_
          exact ih3 _ (by omega) (k + 1) (by omega) (by rw [anyB_s, i2, Bool.false_or]; exact g4) rfl H _ ls hP hD hS (lv_sub hl [0, 1, 2, 3, 4] rfl)
        · have g4 := bI_n0 g4
          refine lv_iconst (v := 1) hx hb d_R_isThereAlready_35 (by decide) ?_
          exact rfZ hx hb hr (bI_nar true) hlk hS () (by rw [anyB_1 (k := k) g4 (by omega)]; rfl) hP hD (Nat.le_of_ble_eq_true rfl) (Nat.le_of_ble_eq_true rfl) d_R_isThereAlready_36
  exact L3 _ 0 (Nat.zero_le _) rfl rfl H _ ls hP hD hS (lv_sub hl [0, 1, 2, 3, 4] rfl)
set_option maxHeartbeats 4000000 in
set_option maxRecDepth 100000 in
theorem v_refuse (l : Launch) (D : va_G) (dA : Nat → ClassId) (sz : Nat) (h : Nat) (ad : Nat → Nat) (x : VS) (kf : Int32) (pf : Int32) : Met l ⟨"SeriesVault$SeriesReader", "refuse", "(II)I"⟩ [Cond.code ⟨"SeriesVault$SeriesReader", "refuse", "(II)I"⟩ prog_8_method_8_code 3 (some FieldType.int)] { frames := 1, cells := 0, slots := 0, locals := 0 } (pC D dA [.ref (ad 18), .int kf, .int pf] (VW dA h ad x) sz) (va_Qi (fun (r9 : Int32) (u9 : Unit) => r9 = (-1)) (fun (u9 : Unit) t9 => bW D (va_A (VW dA h ad x) sz) (VW dA h ad (VS.s_rplace (VS.s_rcode x kf) pf)) t9) (va_A (VW dA h ad x) sz)) 0 0 (va_A (VW dA h ad x) sz) := by
  refine mkC (y := ⟨"SeriesVault$SeriesReader", "refuse", "(II)I"⟩) (cc := prog_8_method_8_code) (maxL := 3) (av := [.ref (ad 18), .int kf, .int pf]) (ws := VW dA h ad x) (sz := sz) (Qc := fun A => va_Qi (fun (r9 : Int32) (u9 : Unit) => r9 = (-1)) (fun (u9 : Unit) t9 => bW D A (VW dA h ad (VS.s_rplace (VS.s_rcode x kf) pf)) t9) A) (by decide) (Nat.le_of_ble_eq_true rfl) ?_
  intro A p e s m below meth c ls hsz hB
  obtain ⟨hx, hb, hr, hml, hown, hin, hlk, hE, hK, hP, hD, hS, hA, hN, hl⟩ := hB
  have hown : s.vm.findClass "SeriesVault$SeriesReader" = some m.cls := hown
  have hl : lv_has ls 3 [(0, .ref (ad 18)), (1, .int kf), (2, .int pf)] := hl
  obtain ⟨H, hH⟩ : ∃ z, z = s.heap := ⟨_, rfl⟩
  have hP : va_P D vwCl (VW dA h ad x) H := by rw [hH]; exact hP
  have hS : va_S A s.heap H [] := by rw [hH]; exact hS
  rw [← hH]
  refine lv_aload_n hx hb d_R_refuse_0 rfl (lv_at hl 0 rfl) ?_
  refine lv_iload_n hx hb d_R_refuse_1 rfl (lv_at hl 1 rfl) ?_
  refine pF (v := .int kf) hx hb hown hE hK hP hD hS 32 rfl rfl layR tyR tokR nmR 4 (by decide) w593 rfl rfl rfl (Nat.le_of_ble_eq_true rfl) d_R_refuse_2 (fun H locs hP hD hS => ?_)
  have hP : va_P D vwCl (VW dA h ad (VS.s_rcode x kf)) H := hP
  have hD : va_D A (VW dA h ad (VS.s_rcode x kf)) := hD
  refine lv_aload_n hx hb d_R_refuse_5 rfl (lv_at hl 0 rfl) ?_
  refine lv_iload_n hx hb d_R_refuse_6 rfl (lv_at hl 2 rfl) ?_
  refine pF (v := .int pf) hx hb hown hE hK hP hD hS 32 rfl rfl layR tyR tokR nmR 5 (by decide) w594 rfl rfl rfl (Nat.le_of_ble_eq_true rfl) d_R_refuse_7 (fun H locs hP hD hS => ?_)
  have hP : va_P D vwCl (VW dA h ad (VS.s_rplace (VS.s_rcode x kf) pf)) H := hP
  have hD : va_D A (VW dA h ad (VS.s_rplace (VS.s_rcode x kf) pf)) := hD
  refine lv_iconst (v := (-1)) hx hb d_R_refuse_10 (by decide) ?_
  exact rfI hx hb hr hlk hS () rfl hP hD (Nat.le_of_ble_eq_true rfl) (Nat.le_of_ble_eq_true rfl) d_R_refuse_11
def VS.rfS (x : VS) (kf : Int32) (pf : Nat) : VS := VS.s_rplace (VS.s_rcode x kf) (nI pf)
def VS.rlS (x : VS) (q n b : Nat) : VS := VS.s_rlab (VS.s_rV (VS.s_rE (VS.s_rS x (va_up x.rS x.rlab q)) (va_up x.rE x.rlab n)) (va_up x.rV x.rlab b)) (x.rlab + 1)
theorem d_R_readLabel_14 : decode prog_8_method_3_code 14 = .ok (.iload 4, 2) := by decide +kernel
theorem d_R_readLabel_16 : decode prog_8_method_3_code 16 = .ok (.iload_n 2, 1) := by decide +kernel
theorem d_R_readLabel_17 : decode prog_8_method_3_code 17 = .ok (.if_icmp .eq 12, 3) := by decide +kernel
theorem d_R_readLabel_20 : decode prog_8_method_3_code 20 = .ok (.aload_n 1, 1) := by decide +kernel
theorem d_R_readLabel_21 : decode prog_8_method_3_code 21 = .ok (.iload 4, 2) := by decide +kernel
theorem d_R_readLabel_23 : decode prog_8_method_3_code 23 = .ok (.baload, 1) := by decide +kernel
theorem d_R_readLabel_24 : decode prog_8_method_3_code 24 = .ok (.bipush 61, 2) := by decide +kernel
theorem d_R_readLabel_26 : decode prog_8_method_3_code 26 = .ok (.if_icmp .eq 12, 3) := by decide +kernel
theorem d_R_readLabel_38 : decode prog_8_method_3_code 38 = .ok (.aload_n 0, 1) := by decide +kernel
theorem d_R_readLabel_39 : decode prog_8_method_3_code 39 = .ok (.getfield 21, 3) := by decide +kernel
theorem d_R_readLabel_42 : decode prog_8_method_3_code 42 = .ok (.bipush 6, 2) := by decide +kernel
theorem d_R_readLabel_44 : decode prog_8_method_3_code 44 = .ok (.if_icmp .eq 14, 3) := by decide +kernel
theorem d_R_readLabel_58 : decode prog_8_method_3_code 58 = .ok (.aload_n 0, 1) := by decide +kernel
theorem d_R_readLabel_59 : decode prog_8_method_3_code 59 = .ok (.bipush 8, 2) := by decide +kernel
theorem d_R_readLabel_61 : decode prog_8_method_3_code 61 = .ok (.iload_n 3, 1) := by decide +kernel
theorem d_R_readLabel_62 : decode prog_8_method_3_code 62 = .ok (.invokevirtual 29, 3) := by decide +kernel
theorem d_R_readLabel_65 : decode prog_8_method_3_code 65 = .ok (.ireturn, 1) := by decide +kernel
theorem d_R_readLabel_47 : decode prog_8_method_3_code 47 = .ok (.aload_n 0, 1) := by decide +kernel
theorem d_R_readLabel_48 : decode prog_8_method_3_code 48 = .ok (.aload_n 1, 1) := by decide +kernel
theorem d_R_readLabel_49 : decode prog_8_method_3_code 49 = .ok (.iload_n 3, 1) := by decide +kernel
theorem d_R_readLabel_50 : decode prog_8_method_3_code 50 = .ok (.iload 4, 2) := by decide +kernel
theorem d_R_readLabel_52 : decode prog_8_method_3_code 52 = .ok (.invokevirtual 36, 3) := by decide +kernel
theorem d_R_readLabel_55 : decode prog_8_method_3_code 55 = .ok (.ifCond .eq 11, 3) := by decide +kernel
theorem d_R_readLabel_66 : decode prog_8_method_3_code 66 = .ok (.aload_n 1, 1) := by decide +kernel
theorem d_R_readLabel_67 : decode prog_8_method_3_code 67 = .ok (.iload_n 2, 1) := by decide +kernel
theorem d_R_readLabel_68 : decode prog_8_method_3_code 68 = .ok (.iload 4, 2) := by decide +kernel
theorem d_R_readLabel_70 : decode prog_8_method_3_code 70 = .ok (.iconst 1, 1) := by decide +kernel
theorem d_R_readLabel_71 : decode prog_8_method_3_code 71 = .ok (.iadd, 1) := by decide +kernel
theorem d_R_readLabel_72 : decode prog_8_method_3_code 72 = .ok (.invokestatic 33, 3) := by decide +kernel
theorem d_R_readLabel_75 : decode prog_8_method_3_code 75 = .ok (.istore 5, 2) := by decide +kernel
theorem d_R_readLabel_77 : decode prog_8_method_3_code 77 = .ok (.iload 5, 2) := by decide +kernel
theorem d_R_readLabel_79 : decode prog_8_method_3_code 79 = .ok (.iload 4, 2) := by decide +kernel
theorem d_R_readLabel_81 : decode prog_8_method_3_code 81 = .ok (.iconst 1, 1) := by decide +kernel
theorem d_R_readLabel_82 : decode prog_8_method_3_code 82 = .ok (.iadd, 1) := by decide +kernel
theorem d_R_readLabel_83 : decode prog_8_method_3_code 83 = .ok (.if_icmp .ne 12, 3) := by decide +kernel
theorem d_R_readLabel_95 : decode prog_8_method_3_code 95 = .ok (.aload_n 0, 1) := by decide +kernel
theorem d_R_readLabel_96 : decode prog_8_method_3_code 96 = .ok (.getfield 9, 3) := by decide +kernel
theorem d_R_readLabel_99 : decode prog_8_method_3_code 99 = .ok (.aload_n 0, 1) := by decide +kernel
theorem d_R_readLabel_100 : decode prog_8_method_3_code 100 = .ok (.getfield 21, 3) := by decide +kernel
theorem d_R_readLabel_103 : decode prog_8_method_3_code 103 = .ok (.iload_n 3, 1) := by decide +kernel
theorem d_R_readLabel_104 : decode prog_8_method_3_code 104 = .ok (.iastore, 1) := by decide +kernel
theorem d_R_readLabel_105 : decode prog_8_method_3_code 105 = .ok (.aload_n 0, 1) := by decide +kernel
theorem d_R_readLabel_106 : decode prog_8_method_3_code 106 = .ok (.getfield 15, 3) := by decide +kernel
theorem d_R_readLabel_109 : decode prog_8_method_3_code 109 = .ok (.aload_n 0, 1) := by decide +kernel
theorem d_R_readLabel_110 : decode prog_8_method_3_code 110 = .ok (.getfield 21, 3) := by decide +kernel
theorem d_R_readLabel_113 : decode prog_8_method_3_code 113 = .ok (.iload 4, 2) := by decide +kernel
theorem d_R_readLabel_115 : decode prog_8_method_3_code 115 = .ok (.iastore, 1) := by decide +kernel
theorem d_R_readLabel_116 : decode prog_8_method_3_code 116 = .ok (.aload_n 0, 1) := by decide +kernel
theorem d_R_readLabel_117 : decode prog_8_method_3_code 117 = .ok (.getfield 18, 3) := by decide +kernel
theorem d_R_readLabel_120 : decode prog_8_method_3_code 120 = .ok (.aload_n 0, 1) := by decide +kernel
theorem d_R_readLabel_121 : decode prog_8_method_3_code 121 = .ok (.getfield 21, 3) := by decide +kernel
theorem d_R_readLabel_124 : decode prog_8_method_3_code 124 = .ok (.iload 5, 2) := by decide +kernel
theorem d_R_readLabel_126 : decode prog_8_method_3_code 126 = .ok (.iastore, 1) := by decide +kernel
theorem d_R_readLabel_127 : decode prog_8_method_3_code 127 = .ok (.aload_n 0, 1) := by decide +kernel
theorem d_R_readLabel_128 : decode prog_8_method_3_code 128 = .ok (.dup, 1) := by decide +kernel
theorem d_R_readLabel_129 : decode prog_8_method_3_code 129 = .ok (.getfield 21, 3) := by decide +kernel
theorem d_R_readLabel_132 : decode prog_8_method_3_code 132 = .ok (.iconst 1, 1) := by decide +kernel
theorem d_R_readLabel_133 : decode prog_8_method_3_code 133 = .ok (.iadd, 1) := by decide +kernel
theorem d_R_readLabel_134 : decode prog_8_method_3_code 134 = .ok (.putfield 21, 3) := by decide +kernel
theorem d_R_readLabel_137 : decode prog_8_method_3_code 137 = .ok (.iload 5, 2) := by decide +kernel
theorem d_R_readLabel_139 : decode prog_8_method_3_code 139 = .ok (.ireturn, 1) := by decide +kernel
theorem d_R_readLabel_86 : decode prog_8_method_3_code 86 = .ok (.aload_n 0, 1) := by decide +kernel
theorem d_R_readLabel_87 : decode prog_8_method_3_code 87 = .ok (.bipush 7, 2) := by decide +kernel
theorem d_R_readLabel_89 : decode prog_8_method_3_code 89 = .ok (.iload 5, 2) := by decide +kernel
theorem d_R_readLabel_91 : decode prog_8_method_3_code 91 = .ok (.invokevirtual 29, 3) := by decide +kernel
theorem d_R_readLabel_94 : decode prog_8_method_3_code 94 = .ok (.ireturn, 1) := by decide +kernel
theorem w1297 : Cond.methodLink "SeriesVault$SeriesReader" 36 ⟨"SeriesVault$SeriesReader", "isThereAlready", "([BII)Z"⟩ ∈ aW := aw_of (tb_3 (List.mem_of_getElem? (i := 211) rfl)) rfl
theorem w1298 : Cond.code ⟨"SeriesVault$SeriesReader", "isThereAlready", "([BII)Z"⟩ prog_8_method_6_code 5 (some FieldType.boolean) ∈ aW := aw_of (tb_3 (List.mem_of_getElem? (i := 214) rfl)) rfl
theorem w1299 : Cond.instanceMethod ⟨"SeriesVault$SeriesReader", "isThereAlready", "([BII)Z"⟩ ∈ aW := aw_of (tb_3 (List.mem_of_getElem? (i := 213) rfl)) rfl
theorem w1300 : Cond.selects "SeriesVault$SeriesReader" ⟨"SeriesVault$SeriesReader", "isThereAlready", "([BII)Z"⟩ ⟨"SeriesVault$SeriesReader", "isThereAlready", "([BII)Z"⟩ ∈ aW := aw_pr (List.mem_map.mpr ⟨_, pv_1 (List.mem_of_getElem? (i := 9) rfl), rfl⟩) rfl
set_option maxHeartbeats 4000000 in
set_option maxRecDepth 100000 in
theorem v_readLabel (l : Launch) (D : va_G) (dA : Nat → ClassId) (sz : Nat) (h : Nat) (ad : Nat → Nat) (x : VS) (len : Nat) (q : Nat) (h1 : q ≤ len) (h2 : len ≤ x.tpN) (h3 : x.tpN ≤ 131072) (h4 : x.rlab ≤ 6) (h5 : lbOk len x.rlab x.rS x.rE x.rV) : Met l ⟨"SeriesVault$SeriesReader", "readLabel", "([BII)I"⟩ [Cond.code ⟨"SeriesVault$SeriesReader", "readLabel", "([BII)I"⟩ prog_8_method_3_code 6 (some FieldType.int)] { frames := 3, cells := 0, slots := 0, locals := 49 } (pC D dA [.ref (ad 18), .ref x.tpA, .int (nI len), .int (nI q)] (VW dA h ad x) sz) (va_Qi (fun (r9 : Int32) (u9 : VS) => (∃ (kf : Int32) (pf : Nat), rlC x.tape len q x.rlab x.rS x.rE = .inl (kf, pf) ∧ r9 = (-1) ∧ u9 = x.rfS kf pf) ∨ (∃ n b : Nat, rlC x.tape len q x.rlab x.rS x.rE = .inr (n, b) ∧ r9 = nI b ∧ u9 = x.rlS q n b)) (fun (u9 : VS) t9 => bW D (va_A (VW dA h ad x) sz) (VW dA h ad u9) t9) (va_A (VW dA h ad x) sz)) 0 0 (va_A (VW dA h ad x) sz) := by
  refine mkC (y := ⟨"SeriesVault$SeriesReader", "readLabel", "([BII)I"⟩) (cc := prog_8_method_3_code) (maxL := 6) (av := [.ref (ad 18), .ref x.tpA, .int (nI len), .int (nI q)]) (ws := VW dA h ad x) (sz := sz) (Qc := fun A => va_Qi (fun (r9 : Int32) (u9 : VS) => (∃ (kf : Int32) (pf : Nat), rlC x.tape len q x.rlab x.rS x.rE = .inl (kf, pf) ∧ r9 = (-1) ∧ u9 = x.rfS kf pf) ∨ (∃ n b : Nat, rlC x.tape len q x.rlab x.rS x.rE = .inr (n, b) ∧ r9 = nI b ∧ u9 = x.rlS q n b)) (fun (u9 : VS) t9 => bW D A (VW dA h ad u9) t9) A) (by decide) (Nat.le_of_ble_eq_true rfl) ?_
  intro A p e s m below meth c ls hsz hB
  obtain ⟨hx, hb, hr, hml, hown, hin, hlk, hE, hK, hP, hD, hS, hA, hN, hl⟩ := hB
  have hown : s.vm.findClass "SeriesVault$SeriesReader" = some m.cls := hown
  have hl : lv_has ls 6 [(0, .ref (ad 18)), (1, .ref x.tpA), (2, .int (nI len)), (3, .int (nI q))] := hl
  obtain ⟨H, hH⟩ : ∃ z, z = s.heap := ⟨_, rfl⟩
  have hP : va_P D vwCl (VW dA h ad x) H := by rw [hH]; exact hP
  have hS : va_S A s.heap H [] := by rw [hH]; exact hS
  rw [← hH]
  refine lv_aload_n hx hb d_R_readLabel_0 rfl (lv_at hl 1 rfl) ?_
  refine lv_iload_n hx hb d_R_readLabel_1 rfl (lv_at hl 2 rfl) ?_
  refine lv_iload_n hx hb d_R_readLabel_2 rfl (lv_at hl 3 rfl) ?_
  refine jkI (wr := []) (rnS (As := [.ref x.tpA, .int (nI len), .int (nI q)]) (rest := []) hx hb hml hown hE hK (hN _ _ hS) hP hD (v_wordEnd l D dA H.size (VW dA h ad x) x.tpA x.tpN x.tape len q (List.mem_of_getElem? (i := 1) rfl) (show q ≤ len from by omega) (show len ≤ x.tpN from by omega) (show x.tpN ≤ 131072 from by omega)) w597 w595 w598 w596 rfl rfl ⟨⟨by decide, by decide⟩, rfl⟩ ⟨(Nat.le_of_ble_eq_true rfl), (Nat.le_of_ble_eq_true rfl)⟩ rfl hl.1 rfl (Nat.le_of_ble_eq_true rfl) d_R_readLabel_3 ⟨(Nat.le_of_ble_eq_true rfl), (Nat.le_of_ble_eq_true rfl)⟩) hP hD hS hA (fun r1 u2 H locs hp9 hP hD hS => ?_)
  have hP : va_P D vwCl (VW dA h ad x) H := hP
  have hD : va_D A (VW dA h ad x) := hD
  replace hp9 : nI (q + wlen x.tape len 24 q) = r1 := Eq.symm hp9
  subst hp9
  refine lv_istore hx hb d_R_readLabel_6 hl (by decide) rfl (fun ls hl => ?_)
  have hl : lv_has ls 6 [(4, .int (nI (q + wlen x.tape len 24 q))), (0, .ref (ad 18)), (1, .ref x.tpA), (2, .int (nI len)), (3, .int (nI q))] := hl
  have w1 := wlen_in (f := x.tape) (len := len) (w := 24) h1
  have w2 := wlen_le x.tape len 24 q
  refine lv_iload hx hb d_R_readLabel_8 (lv_at hl 0 rfl) ?_
  refine lv_iload_n hx hb d_R_readLabel_10 rfl (lv_at hl 4 rfl) ?_
  refine lv_icmp_eq hx hb d_R_readLabel_11 (tgt := 29) rfl (fun g3 => ?_) (fun g3 => ?_)
  · have g3 := (nI_eq (a := q + wlen x.tape len 24 q) (b := q) (by omega) (by omega)).mp g3
    refine lv_aload_n hx hb d_R_readLabel_29 rfl (lv_at hl 1 rfl) ?_
    refine lv_bipush (v := 7) hx hb d_R_readLabel_30 (by decide) ?_
    refine lv_iload hx hb d_R_readLabel_32 (lv_at hl 0 rfl) ?_
    refine jkI (wr := []) (rnV (As := [.int 7, .int (nI (q + wlen x.tape len 24 q))]) (rest := []) hx hb hml hown hE hK (hN _ _ hS) hP hD (v_refuse l D dA H.size h ad x 7 (nI (q + wlen x.tape len 24 q))) (q0 := 32) rfl rfl w600 w599 w601 w602 w596 rfl rfl ⟨⟨by decide, by decide⟩, rfl⟩ ⟨(Nat.le_of_ble_eq_true rfl), (Nat.le_of_ble_eq_true rfl)⟩ rfl hl.1 rfl (Nat.le_of_ble_eq_true rfl) d_R_readLabel_34 ⟨(Nat.le_of_ble_eq_true rfl), (Nat.le_of_ble_eq_true rfl)⟩) hP hD hS hA (fun r4 u5 H locs hp9 hP hD hS => ?_)
    have hP : va_P D vwCl (VW dA h ad (VS.s_rplace (VS.s_rcode x 7) (nI (q + wlen x.tape len 24 q)))) H := hP
    have hD : va_D A (VW dA h ad (VS.s_rplace (VS.s_rcode x 7) (nI (q + wlen x.tape len 24 q)))) := hD
    replace hp9 : (-1) = r4 := Eq.symm hp9
    subst hp9
    exact rfI hx hb hr hlk hS (VS.s_rplace (VS.s_rcode x 7) (nI (q + wlen x.tape len 24 q))) (Or.inl ⟨7, _, rl_a (Or.inl g3), rfl, rfl⟩) hP hD (Nat.le_of_ble_eq_true rfl) (Nat.le_of_ble_eq_true rfl) d_R_readLabel_37
  · have g3 := mt (nI_eq (a := q + wlen x.tape len 24 q) (b := q) (by omega) (by omega)).mpr g3
    refine lv_iload hx hb d_R_readLabel_14 (lv_at hl 0 rfl) ?_
    refine lv_iload_n hx hb d_R_readLabel_16 rfl (lv_at hl 3 rfl) ?_
    refine lv_icmp_eq hx hb d_R_readLabel_17 (tgt := 29) rfl (fun g6 => ?_) (fun g6 => ?_)
    · have g6 := (nI_eq (a := q + wlen x.tape len 24 q) (b := len) (by omega) (by omega)).mp g6
      refine lv_aload_n hx hb d_R_readLabel_29 rfl (lv_at hl 1 rfl) ?_
      refine lv_bipush (v := 7) hx hb d_R_readLabel_30 (by decide) ?_
      refine lv_iload hx hb d_R_readLabel_32 (lv_at hl 0 rfl) ?_
      refine jkI (wr := []) (rnV (As := [.int 7, .int (nI (q + wlen x.tape len 24 q))]) (rest := []) hx hb hml hown hE hK (hN _ _ hS) hP hD (v_refuse l D dA H.size h ad x 7 (nI (q + wlen x.tape len 24 q))) (q0 := 32) rfl rfl w600 w599 w601 w602 w596 rfl rfl ⟨⟨by decide, by decide⟩, rfl⟩ ⟨(Nat.le_of_ble_eq_true rfl), (Nat.le_of_ble_eq_true rfl)⟩ rfl hl.1 rfl (Nat.le_of_ble_eq_true rfl) d_R_readLabel_34 ⟨(Nat.le_of_ble_eq_true rfl), (Nat.le_of_ble_eq_true rfl)⟩) hP hD hS hA (fun r7 u8 H locs hp9 hP hD hS => ?_)
      have hP : va_P D vwCl (VW dA h ad (VS.s_rplace (VS.s_rcode x 7) (nI (q + wlen x.tape len 24 q)))) H := hP
      have hD : va_D A (VW dA h ad (VS.s_rplace (VS.s_rcode x 7) (nI (q + wlen x.tape len 24 q)))) := hD
      replace hp9 : (-1) = r7 := Eq.symm hp9
      subst hp9
      exact rfI hx hb hr hlk hS (VS.s_rplace (VS.s_rcode x 7) (nI (q + wlen x.tape len 24 q))) (Or.inl ⟨7, _, rl_a (Or.inr (Or.inl g6)), rfl, rfl⟩) hP hD (Nat.le_of_ble_eq_true rfl) (Nat.le_of_ble_eq_true rfl) d_R_readLabel_37
    · have g6 := mt (nI_eq (a := q + wlen x.tape len 24 q) (b := len) (by omega) (by omega)).mpr g6
      refine lv_aload_n hx hb d_R_readLabel_20 rfl (lv_at hl 2 rfl) ?_
      refine lv_iload hx hb d_R_readLabel_21 (lv_at hl 0 rfl) ?_
      refine nbld (f := x.tape) (n := x.tpN) hx hb hK hP (1) 0 rfl rfl (q + wlen x.tape len 24 q) (by omega) (by omega) d_R_readLabel_23 ?_
      refine lv_bipush (v := 61) hx hb d_R_readLabel_24 (by decide) ?_
      refine lv_icmp_eq hx hb d_R_readLabel_26 (tgt := 38) rfl (fun g9 => ?_) (fun g9 => ?_)
      · have g9 := g9
        refine lv_aload_n hx hb d_R_readLabel_38 rfl (lv_at hl 1 rfl) ?_
        have w5 : q + wlen x.tape len 24 q < len := by omega
        refine gF (v := .int (nI x.rlab)) hx hb hown hE hK hP 32 rfl rfl layR 3 (by decide) w603 rfl d_R_readLabel_39 ?_
        refine lv_bipush (v := 6) hx hb d_R_readLabel_42 (by decide) ?_
        refine lv_icmp_eq hx hb d_R_readLabel_44 (tgt := 58) rfl (fun g10 => ?_) (fun g10 => ?_)
        · have g10 := (nI_eq (a := x.rlab) (b := 6) (by omega) (by omega)).mp g10
          refine lv_aload_n hx hb d_R_readLabel_58 rfl (lv_at hl 1 rfl) ?_
          refine lv_bipush (v := 8) hx hb d_R_readLabel_59 (by decide) ?_
          refine lv_iload_n hx hb d_R_readLabel_61 rfl (lv_at hl 4 rfl) ?_
          refine jkI (wr := []) (rnV (As := [.int 8, .int (nI q)]) (rest := []) hx hb hml hown hE hK (hN _ _ hS) hP hD (v_refuse l D dA H.size h ad x 8 (nI q)) (q0 := 32) rfl rfl w600 w599 w601 w602 w596 rfl rfl ⟨⟨by decide, by decide⟩, rfl⟩ ⟨(Nat.le_of_ble_eq_true rfl), (Nat.le_of_ble_eq_true rfl)⟩ rfl hl.1 rfl (Nat.le_of_ble_eq_true rfl) d_R_readLabel_62 ⟨(Nat.le_of_ble_eq_true rfl), (Nat.le_of_ble_eq_true rfl)⟩) hP hD hS hA (fun r11 u12 H locs hp9 hP hD hS => ?_)
          have hP : va_P D vwCl (VW dA h ad (VS.s_rplace (VS.s_rcode x 8) (nI q))) H := hP
          have hD : va_D A (VW dA h ad (VS.s_rplace (VS.s_rcode x 8) (nI q))) := hD
          replace hp9 : (-1) = r11 := Eq.symm hp9
          subst hp9
          exact rfI hx hb hr hlk hS (VS.s_rplace (VS.s_rcode x 8) (nI q)) (Or.inl ⟨8, _, rl_b g3 g6 g9 (Or.inl g10), rfl, rfl⟩) hP hD (Nat.le_of_ble_eq_true rfl) (Nat.le_of_ble_eq_true rfl) d_R_readLabel_65
        · have g10 := mt (nI_eq (a := x.rlab) (b := 6) (by omega) (by omega)).mpr g10
          refine lv_aload_n hx hb d_R_readLabel_47 rfl (lv_at hl 1 rfl) ?_
          refine lv_aload_n hx hb d_R_readLabel_48 rfl (lv_at hl 2 rfl) ?_
          refine lv_iload_n hx hb d_R_readLabel_49 rfl (lv_at hl 4 rfl) ?_
          refine lv_iload hx hb d_R_readLabel_50 (lv_at hl 0 rfl) ?_
          refine jkI (wr := []) (rnV (As := [.ref x.tpA, .int (nI q), .int (nI (q + wlen x.tape len 24 q))]) (rest := []) hx hb hml hown hE hK (hN _ _ hS) hP hD (v_isThereAlready l D dA H.size h ad x q (q + wlen x.tape len 24 q) len (show q ≤ (q + wlen x.tape len 24 q) from by omega) (show (q + wlen x.tape len 24 q) ≤ x.tpN from by omega) (show x.tpN ≤ 131072 from by omega) (show x.rlab ≤ 6 from by omega) h5 (show len ≤ x.tpN from by omega)) (q0 := 32) rfl rfl w1298 w1297 w1299 w1300 w596 rfl rfl ⟨⟨by decide, by decide⟩, rfl⟩ ⟨(Nat.le_of_ble_eq_true rfl), (Nat.le_of_ble_eq_true rfl)⟩ rfl hl.1 rfl (Nat.le_of_ble_eq_true rfl) d_R_readLabel_52 ⟨(Nat.le_of_ble_eq_true rfl), (Nat.le_of_ble_eq_true rfl)⟩) hP hD hS hA (fun r13 u14 H locs hp9 hP hD hS => ?_)
          have hP : va_P D vwCl (VW dA h ad x) H := hP
          have hD : va_D A (VW dA h ad x) := hD
          replace hp9 : bI (anyB x.rlab (taC x.tape x.rS x.rE q (q + wlen x.tape len 24 q))) = r13 := Eq.symm hp9
          subst hp9
          refine lv_if_eq hx hb d_R_readLabel_55 (tgt := 66) rfl (fun g15 => ?_) (fun g15 => ?_)
          · have g15 := bI_0 g15
            refine lv_aload_n hx hb d_R_readLabel_66 rfl (lv_at hl 2 rfl) ?_
            refine lv_iload_n hx hb d_R_readLabel_67 rfl (lv_at hl 3 rfl) ?_
            refine lv_iload hx hb d_R_readLabel_68 (lv_at hl 0 rfl) ?_
            refine lv_iconst (v := 1) hx hb d_R_readLabel_70 (by decide) ?_
            refine lv_iadd hx hb d_R_readLabel_71 (tpi (y := nI (q + wlen x.tape len 24 q + 1)) (nI_add (q + wlen x.tape len 24 q) (1)) ?_)
            refine jkI (wr := []) (rnS (As := [.ref x.tpA, .int (nI len), .int (nI (q + wlen x.tape len 24 q + 1))]) (rest := []) hx hb hml hown hE hK (hN _ _ hS) hP hD (v_wordEnd l D dA H.size (VW dA h ad x) x.tpA x.tpN x.tape len (q + wlen x.tape len 24 q + 1) (List.mem_of_getElem? (i := 1) rfl) (show (q + wlen x.tape len 24 q + 1) ≤ len from by omega) (show len ≤ x.tpN from by omega) (show x.tpN ≤ 131072 from by omega)) w597 w595 w598 w596 rfl rfl ⟨⟨by decide, by decide⟩, rfl⟩ ⟨(Nat.le_of_ble_eq_true rfl), (Nat.le_of_ble_eq_true rfl)⟩ rfl hl.1 rfl (Nat.le_of_ble_eq_true rfl) d_R_readLabel_72 ⟨(Nat.le_of_ble_eq_true rfl), (Nat.le_of_ble_eq_true rfl)⟩) hP hD hS hA (fun r16 u17 H locs hp9 hP hD hS => ?_)
            have hP : va_P D vwCl (VW dA h ad x) H := hP
            have hD : va_D A (VW dA h ad x) := hD
            replace hp9 : nI ((q + wlen x.tape len 24 q + 1) + wlen x.tape len 24 (q + wlen x.tape len 24 q + 1)) = r16 := Eq.symm hp9
            subst hp9
            refine lv_istore hx hb d_R_readLabel_75 hl (by decide) rfl (fun ls hl => ?_)
            have hl : lv_has ls 6 [(5, .int (nI ((q + wlen x.tape len 24 q + 1) + wlen x.tape len 24 (q + wlen x.tape len 24 q + 1)))), (4, .int (nI (q + wlen x.tape len 24 q))), (0, .ref (ad 18)), (1, .ref x.tpA), (2, .int (nI len)), (3, .int (nI q))] := hl
            have w3 := wlen_in (f := x.tape) (len := len) (w := 24) (show q + wlen x.tape len 24 q + 1 ≤ len by omega)
            have w4 := wlen_le x.tape len 24 (q + wlen x.tape len 24 q + 1)
            refine lv_iload hx hb d_R_readLabel_77 (lv_at hl 0 rfl) ?_
            refine lv_iload hx hb d_R_readLabel_79 (lv_at hl 1 rfl) ?_
            refine lv_iconst (v := 1) hx hb d_R_readLabel_81 (by decide) ?_
            refine lv_iadd hx hb d_R_readLabel_82 (tpi (y := nI (q + wlen x.tape len 24 q + 1)) (nI_add (q + wlen x.tape len 24 q) (1)) ?_)
            refine lv_icmp_ne hx hb d_R_readLabel_83 (tgt := 95) rfl (fun g18 => ?_) (fun g18 => ?_)
            · have g18 := mt (nI_eq (a := (q + wlen x.tape len 24 q + 1) + wlen x.tape len 24 (q + wlen x.tape len 24 q + 1)) (b := q + wlen x.tape len 24 q + 1) (by omega) (by omega)).mpr g18
              refine lv_aload_n hx hb d_R_readLabel_95 rfl (lv_at hl 2 rfl) ?_
              refine gF (v := .ref (ad 19)) hx hb hown hE hK hP 32 rfl rfl layR 0 (by decide) w206 rfl d_R_readLabel_96 ?_
              refine lv_aload_n hx hb d_R_readLabel_99 rfl (lv_at hl 2 rfl) ?_
              refine gF (v := .int (nI x.rlab)) hx hb hown hE hK hP 32 rfl rfl layR 3 (by decide) w603 rfl d_R_readLabel_100 ?_
              refine lv_iload_n hx hb d_R_readLabel_103 rfl (lv_at hl 5 rfl) ?_
              refine nistN (v := q) (n := 6) hx hb hK hP hD hS (33) 1 rfl rfl (x.rlab) (by omega) (by decide) d_R_readLabel_104 (fun H locs hP hD hS => ?_)
              have hP : va_P D vwCl (VW dA h ad (VS.s_rS x (va_up x.rS x.rlab q))) H := hP
              have hD : va_D A (VW dA h ad (VS.s_rS x (va_up x.rS x.rlab q))) := hD
              refine lv_aload_n hx hb d_R_readLabel_105 rfl (lv_at hl 2 rfl) ?_
              refine gF (v := .ref (ad 20)) hx hb hown hE hK hP 32 rfl rfl layR 1 (by decide) w207 rfl d_R_readLabel_106 ?_
              refine lv_aload_n hx hb d_R_readLabel_109 rfl (lv_at hl 2 rfl) ?_
              refine gF (v := .int (nI x.rlab)) hx hb hown hE hK hP 32 rfl rfl layR 3 (by decide) w603 rfl d_R_readLabel_110 ?_
              refine lv_iload hx hb d_R_readLabel_113 (lv_at hl 1 rfl) ?_
              refine nistN (v := q + wlen x.tape len 24 q) (n := 6) hx hb hK hP hD hS (34) 1 rfl rfl (x.rlab) (by omega) (by decide) d_R_readLabel_115 (fun H locs hP hD hS => ?_)
              have hP : va_P D vwCl (VW dA h ad (VS.s_rE (VS.s_rS x (va_up x.rS x.rlab q)) (va_up x.rE x.rlab (q + wlen x.tape len 24 q)))) H := hP
              have hD : va_D A (VW dA h ad (VS.s_rE (VS.s_rS x (va_up x.rS x.rlab q)) (va_up x.rE x.rlab (q + wlen x.tape len 24 q)))) := hD
              refine lv_aload_n hx hb d_R_readLabel_116 rfl (lv_at hl 2 rfl) ?_
              refine gF (v := .ref (ad 21)) hx hb hown hE hK hP 32 rfl rfl layR 2 (by decide) w208 rfl d_R_readLabel_117 ?_
              refine lv_aload_n hx hb d_R_readLabel_120 rfl (lv_at hl 2 rfl) ?_
              refine gF (v := .int (nI x.rlab)) hx hb hown hE hK hP 32 rfl rfl layR 3 (by decide) w603 rfl d_R_readLabel_121 ?_
              refine lv_iload hx hb d_R_readLabel_124 (lv_at hl 0 rfl) ?_
              refine nistN (v := (q + wlen x.tape len 24 q + 1) + wlen x.tape len 24 (q + wlen x.tape len 24 q + 1)) (n := 6) hx hb hK hP hD hS (35) 1 rfl rfl (x.rlab) (by omega) (by decide) d_R_readLabel_126 (fun H locs hP hD hS => ?_)
              have hP : va_P D vwCl (VW dA h ad (VS.s_rV (VS.s_rE (VS.s_rS x (va_up x.rS x.rlab q)) (va_up x.rE x.rlab (q + wlen x.tape len 24 q))) (va_up x.rV x.rlab ((q + wlen x.tape len 24 q + 1) + wlen x.tape len 24 (q + wlen x.tape len 24 q + 1))))) H := hP
              have hD : va_D A (VW dA h ad (VS.s_rV (VS.s_rE (VS.s_rS x (va_up x.rS x.rlab q)) (va_up x.rE x.rlab (q + wlen x.tape len 24 q))) (va_up x.rV x.rlab ((q + wlen x.tape len 24 q + 1) + wlen x.tape len 24 (q + wlen x.tape len 24 q + 1))))) := hD
              refine lv_aload_n hx hb d_R_readLabel_127 rfl (lv_at hl 2 rfl) ?_
              refine lv_dup hx hb d_R_readLabel_128 rfl ?_
              refine gF (v := .int (nI x.rlab)) hx hb hown hE hK hP 32 rfl rfl layR 3 (by decide) w603 rfl d_R_readLabel_129 ?_
              refine lv_iconst (v := 1) hx hb d_R_readLabel_132 (by decide) ?_
              refine lv_iadd hx hb d_R_readLabel_133 (tpi (y := nI (x.rlab + 1)) (nI_add (x.rlab) (1)) ?_)
              refine pF (v := .int (nI (x.rlab + 1))) hx hb hown hE hK hP hD hS 32 rfl rfl layR tyR tokR nmR 3 (by decide) w603 rfl rfl rfl (Nat.le_of_ble_eq_true rfl) d_R_readLabel_134 (fun H locs hP hD hS => ?_)
              have hP : va_P D vwCl (VW dA h ad (VS.s_rlab (VS.s_rV (VS.s_rE (VS.s_rS x (va_up x.rS x.rlab q)) (va_up x.rE x.rlab (q + wlen x.tape len 24 q))) (va_up x.rV x.rlab ((q + wlen x.tape len 24 q + 1) + wlen x.tape len 24 (q + wlen x.tape len 24 q + 1)))) (x.rlab + 1))) H := hP
              have hD : va_D A (VW dA h ad (VS.s_rlab (VS.s_rV (VS.s_rE (VS.s_rS x (va_up x.rS x.rlab q)) (va_up x.rE x.rlab (q + wlen x.tape len 24 q))) (va_up x.rV x.rlab ((q + wlen x.tape len 24 q + 1) + wlen x.tape len 24 (q + wlen x.tape len 24 q + 1)))) (x.rlab + 1))) := hD
              refine lv_iload hx hb d_R_readLabel_137 (lv_at hl 0 rfl) ?_
              exact rfI hx hb hr hlk hS (VS.s_rlab (VS.s_rV (VS.s_rE (VS.s_rS x (va_up x.rS x.rlab q)) (va_up x.rE x.rlab (q + wlen x.tape len 24 q))) (va_up x.rV x.rlab ((q + wlen x.tape len 24 q + 1) + wlen x.tape len 24 (q + wlen x.tape len 24 q + 1)))) (x.rlab + 1)) (Or.inr ⟨_, _, rl_d g3 g6 g9 g10 g15 g18, rfl, rfl⟩) hP hD (Nat.le_of_ble_eq_true rfl) (Nat.le_of_ble_eq_true rfl) d_R_readLabel_139
            · have g18 := (nI_eq (a := (q + wlen x.tape len 24 q + 1) + wlen x.tape len 24 (q + wlen x.tape len 24 q + 1)) (b := q + wlen x.tape len 24 q + 1) (by omega) (by omega)).mp g18
              refine lv_aload_n hx hb d_R_readLabel_86 rfl (lv_at hl 2 rfl) ?_
              refine lv_bipush (v := 7) hx hb d_R_readLabel_87 (by decide) ?_
              refine lv_iload hx hb d_R_readLabel_89 (lv_at hl 0 rfl) ?_
              refine jkI (wr := []) (rnV (As := [.int 7, .int (nI ((q + wlen x.tape len 24 q + 1) + wlen x.tape len 24 (q + wlen x.tape len 24 q + 1)))]) (rest := []) hx hb hml hown hE hK (hN _ _ hS) hP hD (v_refuse l D dA H.size h ad x 7 (nI ((q + wlen x.tape len 24 q + 1) + wlen x.tape len 24 (q + wlen x.tape len 24 q + 1)))) (q0 := 32) rfl rfl w600 w599 w601 w602 w596 rfl rfl ⟨⟨by decide, by decide⟩, rfl⟩ ⟨(Nat.le_of_ble_eq_true rfl), (Nat.le_of_ble_eq_true rfl)⟩ rfl hl.1 rfl (Nat.le_of_ble_eq_true rfl) d_R_readLabel_91 ⟨(Nat.le_of_ble_eq_true rfl), (Nat.le_of_ble_eq_true rfl)⟩) hP hD hS hA (fun r19 u20 H locs hp9 hP hD hS => ?_)
              have hP : va_P D vwCl (VW dA h ad (VS.s_rplace (VS.s_rcode x 7) (nI ((q + wlen x.tape len 24 q + 1) + wlen x.tape len 24 (q + wlen x.tape len 24 q + 1))))) H := hP
              have hD : va_D A (VW dA h ad (VS.s_rplace (VS.s_rcode x 7) (nI ((q + wlen x.tape len 24 q + 1) + wlen x.tape len 24 (q + wlen x.tape len 24 q + 1))))) := hD
              replace hp9 : (-1) = r19 := Eq.symm hp9
              subst hp9
              exact rfI hx hb hr hlk hS (VS.s_rplace (VS.s_rcode x 7) (nI ((q + wlen x.tape len 24 q + 1) + wlen x.tape len 24 (q + wlen x.tape len 24 q + 1)))) (Or.inl ⟨7, _, rl_c g3 g6 g9 g10 g15 g18, rfl, rfl⟩) hP hD (Nat.le_of_ble_eq_true rfl) (Nat.le_of_ble_eq_true rfl) d_R_readLabel_94
          · have g15 := bI_n0 g15
            refine lv_aload_n hx hb d_R_readLabel_58 rfl (lv_at hl 1 rfl) ?_
            refine lv_bipush (v := 8) hx hb d_R_readLabel_59 (by decide) ?_
            refine lv_iload_n hx hb d_R_readLabel_61 rfl (lv_at hl 4 rfl) ?_
            refine jkI (wr := []) (rnV (As := [.int 8, .int (nI q)]) (rest := []) hx hb hml hown hE hK (hN _ _ hS) hP hD (v_refuse l D dA H.size h ad x 8 (nI q)) (q0 := 32) rfl rfl w600 w599 w601 w602 w596 rfl rfl ⟨⟨by decide, by decide⟩, rfl⟩ ⟨(Nat.le_of_ble_eq_true rfl), (Nat.le_of_ble_eq_true rfl)⟩ rfl hl.1 rfl (Nat.le_of_ble_eq_true rfl) d_R_readLabel_62 ⟨(Nat.le_of_ble_eq_true rfl), (Nat.le_of_ble_eq_true rfl)⟩) hP hD hS hA (fun r21 u22 H locs hp9 hP hD hS => ?_)
            have hP : va_P D vwCl (VW dA h ad (VS.s_rplace (VS.s_rcode x 8) (nI q))) H := hP
            have hD : va_D A (VW dA h ad (VS.s_rplace (VS.s_rcode x 8) (nI q))) := hD
            replace hp9 : (-1) = r21 := Eq.symm hp9
            subst hp9
            exact rfI hx hb hr hlk hS (VS.s_rplace (VS.s_rcode x 8) (nI q)) (Or.inl ⟨8, _, rl_b g3 g6 g9 (Or.inr g15), rfl, rfl⟩) hP hD (Nat.le_of_ble_eq_true rfl) (Nat.le_of_ble_eq_true rfl) d_R_readLabel_65
      · have g9 := g9
        refine lv_aload_n hx hb d_R_readLabel_29 rfl (lv_at hl 1 rfl) ?_
        refine lv_bipush (v := 7) hx hb d_R_readLabel_30 (by decide) ?_
        refine lv_iload hx hb d_R_readLabel_32 (lv_at hl 0 rfl) ?_
        refine jkI (wr := []) (rnV (As := [.int 7, .int (nI (q + wlen x.tape len 24 q))]) (rest := []) hx hb hml hown hE hK (hN _ _ hS) hP hD (v_refuse l D dA H.size h ad x 7 (nI (q + wlen x.tape len 24 q))) (q0 := 32) rfl rfl w600 w599 w601 w602 w596 rfl rfl ⟨⟨by decide, by decide⟩, rfl⟩ ⟨(Nat.le_of_ble_eq_true rfl), (Nat.le_of_ble_eq_true rfl)⟩ rfl hl.1 rfl (Nat.le_of_ble_eq_true rfl) d_R_readLabel_34 ⟨(Nat.le_of_ble_eq_true rfl), (Nat.le_of_ble_eq_true rfl)⟩) hP hD hS hA (fun r23 u24 H locs hp9 hP hD hS => ?_)
        have hP : va_P D vwCl (VW dA h ad (VS.s_rplace (VS.s_rcode x 7) (nI (q + wlen x.tape len 24 q)))) H := hP
        have hD : va_D A (VW dA h ad (VS.s_rplace (VS.s_rcode x 7) (nI (q + wlen x.tape len 24 q)))) := hD
        replace hp9 : (-1) = r23 := Eq.symm hp9
        subst hp9
        exact rfI hx hb hr hlk hS (VS.s_rplace (VS.s_rcode x 7) (nI (q + wlen x.tape len 24 q))) (Or.inl ⟨7, _, rl_a (Or.inr (Or.inr g9)), rfl, rfl⟩) hP hD (Nat.le_of_ble_eq_true rfl) (Nat.le_of_ble_eq_true rfl) d_R_readLabel_37
