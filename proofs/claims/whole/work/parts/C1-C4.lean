section
section XG
variable {p : Program} {l : Launch} {e : Env} {R : Room} {s : State} {m : MethodId} {args : Array Value} {below : List Frame} {meth : Method} {c : Code} {H : Heap} {locs : List Loc} {cells slots : Nat} {Q : State → Prop}
variable {D : va_G} {dA : Nat → ClassId} {A : Nat → Prop} {cc : ByteArray} {pc : Nat} {ls : Array Slot} {rest st0 : List Value} {ws wc wr : va_W}
/-- into a callee that throws, what it leaves told by facts -/
theorem xkV {y : MethodName} {bytes : ByteArray} {maxL mc ms n index nL : Nat} {ret : Option FieldType} {rm : Room} {E : String} {S : Type} {F : S → Prop} {w1 : S → va_W} {own C : String} {T : u_T} {N ci q0 : Nat} {fs : List Value} {b : Nat} {As : List Value}
    (hx : p.tables.exec = Jvm.exec) (hb : c.code = cc) (hml : c.maxLocals = nL) (hown : s.vm.findClass own = some m.cls) (hE : eV s) (hK : va_K D vwCl (arT dA) s) (hN : sK s.heap H)
    (hM : mX l y [Cond.code y bytes maxL ret] rm (pC D dA (.ref b :: As) wc H.size) E (fun st t => va_F (va_A wc H.size) st t ∧ ∃ u : S, F u ∧ bW D (va_A wc H.size) (w1 u) t) mc ms (va_A wc H.size)) (he : wc[q0]? = some (b, .inr (ci, fs))) (hcl : vwCl[ci]? = some (C, T, N))
    (hc : Cond.code y bytes maxL ret ∈ aW) (hl : Cond.methodLink own index y ∈ aW) (hi : Cond.instanceMethod y ∈ aW) (hse : Cond.selects C y y ∈ aW) (hini : Cond.initialized y.cls ∈ aW) (hrc : rm.cells = mc) (hrs : rm.slots = ms)
    (hd : (y.cls ≠ "java/lang/invoke/MethodHandle" ∧ y.cls ≠ "java/lang/invoke/VarHandle") ∧ (parseMethodDescriptor y.desc).map (fun d => d.parameters.length) = some n) (hR : rm.frames + 1 ≤ R.frames ∧ 8 + (maxL + 11) + rm.locals ≤ R.locals)
    (hn : As.length = n) (hsize : ls.size = nL) (hst : st0 = As.reverse ++ .ref b :: rest) (hW : (rest.map fun v => v.category).sum ≤ 8) (hdg : decode cc pc = .ok (.invokevirtual index, 3)) (hf : cells + mc ≤ R.cells ∧ slots + ms ≤ R.slots)
    (hP : va_P D vwCl (wr ++ wc) H) (hD : va_D A (wr ++ wc)) (hS : va_S A s.heap H locs) (hA : ∀ q, s.heap.size ≤ q → A q)
    (kk : ∀ (u : S) (x : Addr) (ce : Cell) (H1 : Heap) (locs1 : List Loc), F u → va_P D vwCl (wr ++ w1 u) H1 → va_D A (wr ++ w1 u) → va_S A s.heap H1 locs1 → H1[x]? = some ce → ce.vm = .none → s.vm.findClass E = some ce.cls → wX p l e R s m args below meth c H1 locs1 (cells + mc) (slots + ms) Q (F0 m pc ls rest) x) :
    W p l e R s m args below meth c H locs cells slots Q (F0 m pc ls st0) := by
  intro T0 hT X
  have hPc := spP hP
  have hDc := spD hD
  have hF := va_free hD hS hA _ (fiC wr wc)
  have hcode : (Cond.code y bytes maxL ret).before args s = true := hE.t hc rfl
  have hinst : (Cond.instanceMethod y).before args s = true := hE.t hi rfl
  have hsel : (Cond.selects C y y).before args s = true := hE.t hse rfl
  obtain ⟨cellB, hcB, hoB, hclB⟩ := va_recv hK hPc hcl he
  obtain ⟨mk, methM, hnamed, hmethM, hstM, habM⟩ := Cond.instanceMethod_spec hinst
  obtain ⟨methM', cM, hmethM', -, -, -, -, -, -, hsigM⟩ := Cond.code_spec hnamed hcode
  cases hmethM.symm.trans hmethM'
  obtain ⟨c2, r2, m2, q1, q2, q3, q4, kP, hkP, hkPi⟩ := Cond.selects_spec hsel
  cases hclB.symm.trans q1
  cases (State.methodFound?_of_named hnamed hd.1).symm.trans q2
  cases hnamed.symm.trans q3
  have hselP : selectMethod e.platform s.vm cellB.cls mk = .method mk := by rw [Launch.admits_selectMethod X.admits]; exact q4
  have hlen : As.length = methM.sig.parameters.length := by
    have h2 := hd.2
    rw [hsigM] at h2
    exact hn.trans (Option.some.inj h2).symm
  obtain ⟨vm₁, X₁, hstep₁⟩ := X.invokevirtual hx hown (hE.t hl rfl) hnamed hmethM hstM hkP hkPi hd.1 (a := b) (cell := cellB) (by rw [hT]; exact hcB)
    (fun z h => by rw [h] at hoB; cases hoB) hselP hmethM habM hkP hkPi (g := F0 m pc ls st0) rfl (argsL := As) (rest := rest) hlen hst (by rw [hb]; exact hdg)
  obtain ⟨x, ce, T', t, L, X', hL, e1, hce, hcv, hcl2, ⟨hFr, u, hu, hB⟩, hsteps⟩ := xBack X₁ (g := F0 m pc ls rest) rfl (hsize.trans hml.symm) (ig := .invokevirtual index) (len := 3) (by rw [hb]; exact hdg) (lv_room hW) (X₁.named hnamed) hM
    (pC_blind _ _ _ _ (pre_1 hE hK hN hPc hDc (T0.setVm vm₁) hT X₁.warmed)) (word_at X₁.warmed (Or.inl rfl) hcode) (word_at X₁.warmed (Or.inl rfl) (hE.t (args := args) hini rfl)) hrc hrs hR hf
  have hz : H.size ≤ t.heap.size := by have := hFr.1; rw [← hT]; exact this
  have hk : ∀ q : Nat, q < H.size → ¬ va_A wc H.size q → t.heap[q]? = H[q]? := fun q h1 h2 => by
    have := hFr.2 q (by show q < T0.heap.size; rw [hT]; exact h1) h2
    rw [this]; show T0.heap[q]? = _; rw [hT]
  obtain ⟨g1, g2⟩ := va_join hP hD _ _ (fiC wr wc) (fiR wr wc) (nd_of List.nodup_range) (fiD wr wc) hk hF hB.1 hB.2
  obtain ⟨t2, a1, b1⟩ := kk u x ce t.heap (locs ++ L) hu g1 g2 ⟨Nat.le_trans hS.1 hz, fun q h1 h2 => by
      rw [hk q (Nat.lt_of_lt_of_le h1 hS.1) (fun z => h2 (hF q z))]; exact hS.2.1 q h1 h2, fun q hq => by
      rcases List.mem_append.mp hq with h | h
      · exact hS.2.2 q h
      · exact hF _ (hL q h)⟩ hce hcv (fX X₁.warmed hcl2) T' e1 X'
  exact ⟨t2, hstep₁ _ fun acts => by rw [doInvoke_state]; exact hsteps.trans a1, b1⟩
theorem xkE {S : Type} {F : S → Prop} {w1 : S → va_W} (u : S) (hF : F u) (hP : va_P D vwCl (w1 u) H) (hD : va_D A (w1 u)) (hS : va_S A s.heap H locs) (t : State) (h1 : H.size ≤ t.heap.size) (h2 : ∀ q : Nat, q < H.size → t.heap[q]? = H[q]?) : va_F A s t ∧ ∃ u : S, F u ∧ bW D A (w1 u) t := by
  obtain ⟨g1, g2⟩ := xEndV hP hD hS t h1 h2
  exact ⟨g1, u, hF, g2⟩
end XG
/-- bytes of the tape alike -/
def txQ (f : Nat → Int32) (a b i : Nat) : Bool := decide (f (a + i) = f (b + i))
def sbB (f : Nat → Int32) (a b a2 b2 : Nat) : Bool := decide (b - a = b2 - a2) && allB (b - a) (txQ f a a2)
def taC (f : Nat → Int32) (S E : Nat → Nat) (q n k : Nat) : Bool := sbB f (S k) (E k) q n
/-- a label read: a flaw, or the ends of its name and of its value -/
def rlC (f : Nat → Int32) (len q c : Nat) (S E : Nat → Nat) : (Int32 × Nat) ⊕ (Nat × Nat) :=
  if q + wlen f len 24 q = q ∨ q + wlen f len 24 q = len ∨ ¬ f (q + wlen f len 24 q) = 61 then .inl (7, q + wlen f len 24 q) else
  if c = 6 ∨ anyB c (taC f S E q (q + wlen f len 24 q)) = true then .inl (8, q) else
  if q + wlen f len 24 q + 1 + wlen f len 24 (q + wlen f len 24 q + 1) = q + wlen f len 24 q + 1 then .inl (7, q + wlen f len 24 q + 1 + wlen f len 24 (q + wlen f len 24 q + 1)) else
  .inr (q + wlen f len 24 q, q + wlen f len 24 q + 1 + wlen f len 24 (q + wlen f len 24 q + 1))
section RL
variable {f : Nat → Int32} {len q c : Nat} {S E : Nat → Nat}
theorem rl_a (h : q + wlen f len 24 q = q ∨ q + wlen f len 24 q = len ∨ ¬ f (q + wlen f len 24 q) = 61) : rlC f len q c S E = .inl (7, q + wlen f len 24 q) := if_pos h
theorem rl_b (h1 : ¬ q + wlen f len 24 q = q) (h2 : ¬ q + wlen f len 24 q = len) (h3 : f (q + wlen f len 24 q) = 61) (h : c = 6 ∨ anyB c (taC f S E q (q + wlen f len 24 q)) = true) : rlC f len q c S E = .inl (8, q) :=
  (if_neg (fun z => z.elim h1 (fun z => z.elim h2 (fun z => z h3)))).trans (if_pos h)
theorem rl_c (h1 : ¬ q + wlen f len 24 q = q) (h2 : ¬ q + wlen f len 24 q = len) (h3 : f (q + wlen f len 24 q) = 61) (h4 : ¬ c = 6) (h5 : anyB c (taC f S E q (q + wlen f len 24 q)) = false) (h : q + wlen f len 24 q + 1 + wlen f len 24 (q + wlen f len 24 q + 1) = q + wlen f len 24 q + 1) : rlC f len q c S E = .inl (7, q + wlen f len 24 q + 1 + wlen f len 24 (q + wlen f len 24 q + 1)) :=
  (if_neg (fun z => z.elim h1 (fun z => z.elim h2 (fun z => z h3)))).trans ((if_neg (fun z => z.elim h4 (fun z => by rw [h5] at z; cases z))).trans (if_pos h))
theorem rl_d (h1 : ¬ q + wlen f len 24 q = q) (h2 : ¬ q + wlen f len 24 q = len) (h3 : f (q + wlen f len 24 q) = 61) (h4 : ¬ c = 6) (h5 : anyB c (taC f S E q (q + wlen f len 24 q)) = false) (h : ¬ q + wlen f len 24 q + 1 + wlen f len 24 (q + wlen f len 24 q + 1) = q + wlen f len 24 q + 1) : rlC f len q c S E = .inr (q + wlen f len 24 q, q + wlen f len 24 q + 1 + wlen f len 24 (q + wlen f len 24 q + 1)) :=
  (if_neg (fun z => z.elim h1 (fun z => z.elim h2 (fun z => z h3)))).trans ((if_neg (fun z => z.elim h4 (fun z => by rw [h5] at z; cases z))).trans (if_neg h))
end RL
theorem rl_in {f : Nat → Int32} {len q c : Nat} {S E : Nat → Nat} {a b : Nat} (hq : q ≤ len) (h : rlC f len q c S E = .inr (a, b)) : ¬ c = 6 ∧ q < a ∧ a ≤ q + 24 ∧ a + 1 < b ∧ b ≤ a + 25 ∧ b ≤ len ∧ f a = 61 ∧ a = q + wlen f len 24 q ∧ b = a + 1 + wlen f len 24 (a + 1) ∧ anyB c (taC f S E q a) = false := by
  unfold rlC at h
  have w1 := wlen_in (f := f) (len := len) (w := 24) hq
  have w2 := wlen_le f len 24 q
  split at h
  · cases h
  · next g1 =>
    split at h
    · cases h
    · next g2 =>
      split at h
      · cases h
      · next g3 =>
        cases h
        have h61 : f (q + wlen f len 24 q) = 61 := Decidable.byContradiction (fun z => g1 (Or.inr (Or.inr z)))
        have n1 : ¬ q + wlen f len 24 q = q := fun z => g1 (Or.inl z)
        have n2 : ¬ q + wlen f len 24 q = len := fun z => g1 (Or.inr (Or.inl z))
        have w3 := wlen_in (f := f) (len := len) (w := 24) (show q + wlen f len 24 q + 1 ≤ len by omega)
        have w4 := wlen_le f len 24 (q + wlen f len 24 q + 1)
        refine ⟨fun z => g2 (Or.inl z), by omega, by omega, by omega, by omega, by omega, h61, rfl, rfl, ?_⟩
        cases ha : anyB c (taC f S E q (q + wlen f len 24 q)) with
        | false => rfl
        | true => exact absurd (Or.inr ha) g2
abbrev rdT : Type := (Int32 × Nat) ⊕ (Nat × (Nat → Nat) × (Nat → Nat) × (Nat → Nat))
/-- the text of a series read: a flaw, or its labels -/
def rdC (f : Nat → Int32) (len : Nat) : Nat → Nat → Nat → (Nat → Nat) → (Nat → Nat) → (Nat → Nat) → rdT
  | 0, q, _, _, _, _ => .inl (8, q)
  | w + 1, q, c, S, E, V => match rlC f len q c S E with
    | .inl a => .inl a
    | .inr (n, b) => if b = len then .inr (c + 1, va_up S c q, va_up E c n, va_up V c b) else if f b = 44 then rdC f len w (b + 1) (c + 1) (va_up S c q) (va_up E c n) (va_up V c b) else .inl (7, b)
theorem rd_x {f : Nat → Int32} {len w q c : Nat} {S E V : Nat → Nat} {a : Int32 × Nat} (h : rlC f len q c S E = .inl a) : rdC f len (w + 1) q c S E V = .inl a := by
  unfold rdC
  rw [h]
theorem rd_s {f : Nat → Int32} {len w q c n b : Nat} {S E V : Nat → Nat} (h : rlC f len q c S E = .inr (n, b)) : rdC f len (w + 1) q c S E V = if b = len then .inr (c + 1, va_up S c q, va_up E c n, va_up V c b) else if f b = 44 then rdC f len w (b + 1) (c + 1) (va_up S c q) (va_up E c n) (va_up V c b) else .inl (7, b) := by
  show (match rlC f len q c S E with | .inl a => _ | .inr (n, b) => _) = _
  rw [h]
/-- labels that lie on the tape -/
def lbOk (len c : Nat) (S E V : Nat → Nat) : Prop := ∀ k, k < c → S k < E k ∧ E k ≤ S k + 24 ∧ E k + 1 < V k ∧ V k ≤ E k + 25 ∧ V k ≤ len
theorem lbOk_s {len c q n b : Nat} {S E V : Nat → Nat} (h : lbOk len c S E V) (h1 : q < n) (h2 : n ≤ q + 24) (h3 : n + 1 < b) (h4 : b ≤ n + 25) (h5 : b ≤ len) : lbOk len (c + 1) (va_up S c q) (va_up E c n) (va_up V c b) := by
  intro k hk
  by_cases e : k = c
  · subst e
    rw [va_up_self, va_up_self, va_up_self]
    exact ⟨h1, h2, h3, h4, h5⟩
  · rw [va_up_ne _ _ e, va_up_ne _ _ e, va_up_ne _ _ e]
    exact h k (by omega)
def sp7 (z : Int32) : Prop := z = 34 ∨ z = 40 ∨ z = 41 ∨ z = 44 ∨ z = 61 ∨ z = 123 ∨ z = 125
theorem lsw_hit {z : Int32} (h : sp7 z) : Op.lookupswitch.offset [(34, 67), (40, 67), (41, 67), (44, 67), (61, 67), (123, 67), (125, 67)] 69 z.toInt = 67 := by
  rcases h with h | h | h | h | h | h | h <;> subst h <;> decide
theorem lsw_no {z : Int32} (h : ¬ sp7 z) : Op.lookupswitch.offset [(34, 67), (40, 67), (41, 67), (44, 67), (61, 67), (123, 67), (125, 67)] 69 z.toInt = 69 := by
  have k : ∀ (a : Int32) (n : Int), a.toInt = n → ¬ z = a → ¬ n = z.toInt := fun a n e g q => g (Int32.toInt_inj.mp (by rw [e, q]))
  unfold sp7 at h
  simp only [not_or] at h
  obtain ⟨h1, h2, h3, h4, h5, h6, h7⟩ := h
  rw [Op.lookupswitch.offset_cons, if_neg (k 34 34 (by decide) h1), Op.lookupswitch.offset_cons, if_neg (k 40 40 (by decide) h2), Op.lookupswitch.offset_cons, if_neg (k 41 41 (by decide) h3), Op.lookupswitch.offset_cons, if_neg (k 44 44 (by decide) h4), Op.lookupswitch.offset_cons, if_neg (k 61 61 (by decide) h5), Op.lookupswitch.offset_cons, if_neg (k 123 123 (by decide) h6), Op.lookupswitch.offset_cons, if_neg (k 125 125 (by decide) h7)]
  rfl
theorem isWd_h {z : Int32} (h : sp7 z) : isWd z = false := by
  rcases h with h | h | h | h | h | h | h <;> subst h <;> decide
theorem isWd_no {z : Int32} (h : ¬ sp7 z) : isWd z = (!decide (z < 33) && !decide (126 < z)) := by
  unfold sp7 at h
  simp only [not_or] at h
  obtain ⟨h1, h2, h3, h4, h5, h6, h7⟩ := h
  have a1 : z ≤ 32 ↔ z < 33 := by
    rw [Int32.le_iff_toInt_le, Int32.lt_iff_toInt_lt, show (32 : Int32).toInt = 32 by decide, show (33 : Int32).toInt = 33 by decide]
    omega
  have a2 : 127 ≤ z ↔ 126 < z := by
    rw [Int32.le_iff_toInt_le, Int32.lt_iff_toInt_lt, show (127 : Int32).toInt = 127 by decide, show (126 : Int32).toInt = 126 by decide]
    omega
  have b1 : decide (z ≤ 32) = decide (z < 33) := decide_eq_decide.mpr a1
  have b2 : decide (127 ≤ z) = decide (126 < z) := decide_eq_decide.mpr a2
  unfold isWd
  rw [decide_eq_false h1, decide_eq_false h2, decide_eq_false h3, decide_eq_false h4, decide_eq_false h5, decide_eq_false h6, decide_eq_false h7, b1, b2]
  simp
theorem anyB_1 {k : Nat} {f : Nat → Bool} (hf : f k = true) : ∀ {n : Nat}, k < n → anyB n f = true
  | 0, h => absurd h (Nat.not_lt_zero k)
  | n + 1, h => by
    rw [anyB_s]
    by_cases e : k = n
    · subst e; rw [hf, Bool.or_true]
    · rw [anyB_1 hf (n := n) (by omega), Bool.true_or]
theorem wlen_e {f : Nat → Int32} {len w q : Nat} (h : w = 0 ∨ len ≤ q) : wlen f len w q = 0 := by
  cases w with
  | zero => rfl
  | succ w =>
    show (if len ≤ q then 0 else _) = 0
    rw [if_pos (by omega)]
theorem d_R_isOfWord_0 : decode prog_8_method_5_code 0 = .ok (.iload_n 0, 1) := by decide +kernel
theorem d_R_isOfWord_1 : decode prog_8_method_5_code 1 = .ok (.lookupswitch 69 #[(34, 67), (40, 67), (41, 67), (44, 67), (61, 67), (123, 67), (125, 67)], 67) := by decide +kernel
theorem d_R_isOfWord_68 : decode prog_8_method_5_code 68 = .ok (.iconst 0, 1) := by decide +kernel
theorem d_R_isOfWord_69 : decode prog_8_method_5_code 69 = .ok (.ireturn, 1) := by decide +kernel
theorem d_R_isOfWord_70 : decode prog_8_method_5_code 70 = .ok (.iload_n 0, 1) := by decide +kernel
theorem d_R_isOfWord_71 : decode prog_8_method_5_code 71 = .ok (.bipush 33, 2) := by decide +kernel
theorem d_R_isOfWord_73 : decode prog_8_method_5_code 73 = .ok (.if_icmp .lt 13, 3) := by decide +kernel
theorem d_R_isOfWord_86 : decode prog_8_method_5_code 86 = .ok (.iconst 0, 1) := by decide +kernel
theorem d_R_isOfWord_87 : decode prog_8_method_5_code 87 = .ok (.ireturn, 1) := by decide +kernel
theorem d_R_isOfWord_76 : decode prog_8_method_5_code 76 = .ok (.iload_n 0, 1) := by decide +kernel
theorem d_R_isOfWord_77 : decode prog_8_method_5_code 77 = .ok (.bipush 126, 2) := by decide +kernel
theorem d_R_isOfWord_79 : decode prog_8_method_5_code 79 = .ok (.if_icmp .gt 7, 3) := by decide +kernel
theorem d_R_isOfWord_82 : decode prog_8_method_5_code 82 = .ok (.iconst 1, 1) := by decide +kernel
theorem d_R_isOfWord_83 : decode prog_8_method_5_code 83 = .ok (.goto 4, 3) := by decide +kernel
set_option maxHeartbeats 4000000 in
set_option maxRecDepth 100000 in
theorem v_isOfWord (l : Launch) (D : va_G) (dA : Nat → ClassId) (sz : Nat) (z : Int32) : Met l ⟨"SeriesVault$SeriesReader", "isOfWord", "(I)Z"⟩ [Cond.code ⟨"SeriesVault$SeriesReader", "isOfWord", "(I)Z"⟩ prog_8_method_5_code 1 (some FieldType.boolean)] { frames := 1, cells := 0, slots := 0, locals := 0 } (pC D dA [.int z] ([]) sz) (va_Qi (fun (r9 : Int32) (u9 : Unit) => r9 = bI (isWd z)) (fun (u9 : Unit) t9 => bW D (va_A ([]) sz) ([]) t9) (va_A ([]) sz)) 0 0 (va_A ([]) sz) := by
  refine mkC (y := ⟨"SeriesVault$SeriesReader", "isOfWord", "(I)Z"⟩) (cc := prog_8_method_5_code) (maxL := 1) (av := [.int z]) (ws := []) (sz := sz) (Qc := fun A => va_Qi (fun (r9 : Int32) (u9 : Unit) => r9 = bI (isWd z)) (fun (u9 : Unit) t9 => bW D A ([]) t9) A) (by decide) (Nat.le_of_ble_eq_true rfl) ?_
  intro A p e s m below meth c ls hsz hB
  obtain ⟨hx, hb, hr, hml, hown, hin, hlk, hE, hK, hP, hD, hS, hA, hN, hl⟩ := hB
  have hown : s.vm.findClass "SeriesVault$SeriesReader" = some m.cls := hown
  have hl : lv_has ls 1 [(0, .int z)] := hl
  obtain ⟨H, hH⟩ : ∃ z, z = s.heap := ⟨_, rfl⟩
  have hP : va_P D vwCl ([]) H := by rw [hH]; exact hP
  have hS : va_S A s.heap H [] := by rw [hH]; exact hS
  rw [← hH]
  refine lv_iload_n hx hb d_R_isOfWord_0 rfl (lv_at hl 0 rfl) ?_
  rcases Classical.em (sp7 z) with h1 | h1
  · refine lv_lookup (x := z) (off := 67) (tgt := 68) hx hb d_R_isOfWord_1 (by decide) (lsw_hit h1) rfl ?_
    refine lv_iconst (v := 0) hx hb d_R_isOfWord_68 (by decide) ?_
    exact rfZ hx hb hr (bI_nar false) hlk hS () (by rw [isWd_h h1]; rfl) hP hD (Nat.le_of_ble_eq_true rfl) (Nat.le_of_ble_eq_true rfl) d_R_isOfWord_69
  · refine lv_lookup (x := z) (off := 69) (tgt := 70) hx hb d_R_isOfWord_1 (by decide) (lsw_no h1) rfl ?_
    refine lv_iload_n hx hb d_R_isOfWord_70 rfl (lv_at hl 0 rfl) ?_
    refine lv_bipush (v := 33) hx hb d_R_isOfWord_71 (by decide) ?_
    refine lv_icmp_lt hx hb d_R_isOfWord_73 (tgt := 86) rfl (fun g1 => ?_) (fun g1 => ?_)
    · have g1 := g1
      refine lv_iconst (v := 0) hx hb d_R_isOfWord_86 (by decide) ?_
      exact rfZ hx hb hr (bI_nar false) hlk hS () (by rw [isWd_no h1, decide_eq_true g1]; rfl) hP hD (Nat.le_of_ble_eq_true rfl) (Nat.le_of_ble_eq_true rfl) d_R_isOfWord_87
    · have g1 := g1
      refine lv_iload_n hx hb d_R_isOfWord_76 rfl (lv_at hl 0 rfl) ?_
      refine lv_bipush (v := 126) hx hb d_R_isOfWord_77 (by decide) ?_
      refine lv_icmp_gt hx hb d_R_isOfWord_79 (tgt := 86) rfl (fun g2 => ?_) (fun g2 => ?_)
      · have g2 := g2
        refine lv_iconst (v := 0) hx hb d_R_isOfWord_86 (by decide) ?_
        exact rfZ hx hb hr (bI_nar false) hlk hS () (by rw [isWd_no h1, decide_eq_false g1, decide_eq_true g2]; rfl) hP hD (Nat.le_of_ble_eq_true rfl) (Nat.le_of_ble_eq_true rfl) d_R_isOfWord_87
      · have g2 := g2
        refine lv_iconst (v := 1) hx hb d_R_isOfWord_82 (by decide) ?_
        refine lv_goto hx hb d_R_isOfWord_83 (tgt := 87) rfl ?_
        exact rfZ hx hb hr (bI_nar true) hlk hS () (by rw [isWd_no h1, decide_eq_false g1, decide_eq_false g2]; rfl) hP hD (Nat.le_of_ble_eq_true rfl) (Nat.le_of_ble_eq_true rfl) d_R_isOfWord_87
theorem d_R_wordEnd_18 : decode prog_8_method_4_code 18 = .ok (.aload_n 0, 1) := by decide +kernel
theorem d_R_wordEnd_19 : decode prog_8_method_4_code 19 = .ok (.iload 4, 2) := by decide +kernel
theorem d_R_wordEnd_21 : decode prog_8_method_4_code 21 = .ok (.baload, 1) := by decide +kernel
theorem d_R_wordEnd_22 : decode prog_8_method_4_code 22 = .ok (.invokestatic 45, 3) := by decide +kernel
theorem d_R_wordEnd_25 : decode prog_8_method_4_code 25 = .ok (.ifCond .eq 9, 3) := by decide +kernel
theorem d_R_wordEnd_28 : decode prog_8_method_4_code 28 = .ok (.iinc 4 1, 3) := by decide +kernel
theorem d_R_wordEnd_31 : decode prog_8_method_4_code 31 = .ok (.goto (-19), 3) := by decide +kernel
theorem w1291 : Cond.methodLink "SeriesVault$SeriesReader" 45 ⟨"SeriesVault$SeriesReader", "isOfWord", "(I)Z"⟩ ∈ aW := aw_of (tb_3 (List.mem_of_getElem? (i := 204) rfl)) rfl
theorem w1292 : Cond.code ⟨"SeriesVault$SeriesReader", "isOfWord", "(I)Z"⟩ prog_8_method_5_code 1 (some FieldType.boolean) ∈ aW := aw_of (tb_3 (List.mem_of_getElem? (i := 206) rfl)) rfl
theorem w1293 : Cond.static ⟨"SeriesVault$SeriesReader", "isOfWord", "(I)Z"⟩ ∈ aW := aw_of (tb_3 (List.mem_of_getElem? (i := 205) rfl)) rfl
set_option maxHeartbeats 4000000 in
set_option maxRecDepth 100000 in
theorem v_wordEnd (l : Launch) (D : va_G) (dA : Nat → ClassId) (sz : Nat) (ws : va_W) (arr : Nat) (n : Nat) (f : Nat → Int32) (len : Nat) (q : Nat) (m1 : (arr, .inl (dA 0, n, .inl f)) ∈ ws) (h1 : q ≤ len) (h2 : len ≤ n) (h3 : n ≤ 131072) : Met l ⟨"SeriesVault$SeriesReader", "wordEnd", "([BII)I"⟩ [Cond.code ⟨"SeriesVault$SeriesReader", "wordEnd", "([BII)I"⟩ prog_8_method_4_code 5 (some FieldType.int)] { frames := 2, cells := 0, slots := 0, locals := 20 } (pC D dA [.ref arr, .int (nI len), .int (nI q)] (ws) sz) (va_Qi (fun (r9 : Int32) (u9 : Unit) => r9 = nI (q + wlen f len 24 q)) (fun (u9 : Unit) t9 => bW D (va_A (ws) sz) (ws) t9) (va_A (ws) sz)) 0 0 (va_A (ws) sz) := by
  refine mkC (y := ⟨"SeriesVault$SeriesReader", "wordEnd", "([BII)I"⟩) (cc := prog_8_method_4_code) (maxL := 5) (av := [.ref arr, .int (nI len), .int (nI q)]) (ws := ws) (sz := sz) (Qc := fun A => va_Qi (fun (r9 : Int32) (u9 : Unit) => r9 = nI (q + wlen f len 24 q)) (fun (u9 : Unit) t9 => bW D A (ws) t9) A) (by decide) (Nat.le_of_ble_eq_true rfl) ?_
  intro A p e s m below meth c ls hsz hB
  obtain ⟨hx, hb, hr, hml, hown, hin, hlk, hE, hK, hP, hD, hS, hA, hN, hl⟩ := hB
  have hown : s.vm.findClass "SeriesVault$SeriesReader" = some m.cls := hown
  have hl : lv_has ls 5 [(0, .ref arr), (1, .int (nI len)), (2, .int (nI q))] := hl
  obtain ⟨H, hH⟩ : ∃ z, z = s.heap := ⟨_, rfl⟩
  have hP : va_P D vwCl (ws) H := by rw [hH]; exact hP
  have hS : va_S A s.heap H [] := by rw [hH]; exact hS
  rw [← hH]
  refine lv_iload_n hx hb d_R_wordEnd_0 rfl (lv_at hl 1 rfl) ?_
  refine lv_iload_n hx hb d_R_wordEnd_1 rfl (lv_at hl 2 rfl) ?_
  refine lv_bipush (v := 24) hx hb d_R_wordEnd_2 (by decide) ?_
  refine lv_iadd hx hb d_R_wordEnd_4 (tpi (y := nI (q + 24)) (nI_add (q) (24)) ?_)
  refine va_mmin hx hb (hml.trans hl.1.symm) hown (hE.t w592 rfl) (hE.t w548 rfl) (hE.t w549 rfl) (hE.t w550 rfl) (Nat.le_of_ble_eq_true rfl) (Nat.le_of_ble_eq_true rfl) (Nat.le_of_ble_eq_true rfl) (Nat.le_of_ble_eq_true rfl) d_R_wordEnd_5 (tpi (y := nI (min len (q + 24))) (nI_min (a := len) (b := q + 24) (by omega) (by omega)) ?_)
  refine lv_istore_n hx hb d_R_wordEnd_8 rfl hl (by decide) rfl (fun ls hl => ?_)
  have hl : lv_has ls 5 [(3, .int (nI (min len (q + 24)))), (0, .ref arr), (1, .int (nI len)), (2, .int (nI q))] := hl
  refine lv_iload_n hx hb d_R_wordEnd_9 rfl (lv_at hl 3 rfl) ?_
  refine lv_istore hx hb d_R_wordEnd_10 hl (by decide) rfl (fun ls hl => ?_)
  have hl : lv_has ls 5 [(4, .int (nI q)), (3, .int (nI (min len (q + 24)))), (0, .ref arr), (1, .int (nI len)), (2, .int (nI q))] := hl
  have L12 : ∀ (k9 : Nat) (k : Nat) (i1 : k ≤ 24) (i2 : q + k ≤ len) (i3 : wlen f len 24 q = k + wlen f len (24 - k) (q + k)) (hk9 : 24 - k = k9), ∀ (H : Heap) (locs : List Loc) (ls : Array Slot) (hP : va_P D vwCl (ws) H) (hD : va_D A (ws)) (hS : va_S A s.heap H locs) (hl : lv_has ls 5 [(4, .int (nI (q + k))), (3, .int (nI (min len (q + 24)))), (0, .ref arr), (1, .int (nI len)), (2, .int (nI q))]), W p l e ({ frames := 2, cells := 0, slots := 0, locals := 20 } : Room) s m ([.ref arr, .int (nI len), .int (nI q)] : List Value).toArray below meth c H locs 0 0 (MQ below (va_Qi (fun (r9 : Int32) (u9 : Unit) => r9 = nI (q + wlen f len 24 q)) (fun (u9 : Unit) t9 => bW D A (ws) t9) A) ([.ref arr, .int (nI len), .int (nI q)] : List Value).toArray s 0 0 A) (F0 m 12 ls []) := by
    intro k9
    induction k9 using Nat.strongRecOn with
    | ind k9 ih12 =>
      intro k i1 i2 i3 hk9 H locs ls hP hD hS hl
      refine lv_iload hx hb d_R_wordEnd_12 (lv_at hl 0 rfl) ?_
      refine lv_iload_n hx hb d_R_wordEnd_14 rfl (lv_at hl 1 rfl) ?_
      refine lv_icmp_ge hx hb d_R_wordEnd_15 (tgt := 34) rfl (fun g1 => ?_) (fun g1 => ?_)
      · have g1 := (nI_leI (a := min len (q + 24)) (b := q + k) (by omega) (by omega)).mp g1
        refine lv_iload hx hb d_R_wordEnd_34 (lv_at hl 0 rfl) ?_
        exact rfI hx hb hr hlk hS () (by rw [i3, wlen_e (by omega), Nat.add_zero]) hP hD (Nat.le_of_ble_eq_true rfl) (Nat.le_of_ble_eq_true rfl) d_R_wordEnd_36
      · have g1 := mt (nI_leI (a := min len (q + 24)) (b := q + k) (by omega) (by omega)).mpr g1
        refine lv_aload_n hx hb d_R_wordEnd_18 rfl (lv_at hl 2 rfl) ?_
        refine lv_iload hx hb d_R_wordEnd_19 (lv_at hl 0 rfl) ?_
        obtain ⟨qp2, ep3⟩ := List.getElem?_of_mem (show ((arr, .inl (dA 0, n, .inl f)) : Nat × va_E) ∈ ws from m1)
        refine nbld (f := f) (n := n) hx hb hK hP (qp2) 0 ep3 rfl (q + k) (by omega) (by omega) d_R_wordEnd_21 ?_
        have hPc := hP.sub (ws' := []) [] rfl
        have hDc := hD.sub (ws' := []) [] (by decide) rfl
        refine jpI (rnS (As := [.int (f (q + k))]) (rest := []) hx hb hml hown hE hK (hN _ _ hS) hPc hDc (v_isOfWord l D dA H.size (f (q + k))) w1292 w1291 w1293 w596 rfl rfl ⟨⟨by decide, by decide⟩, rfl⟩ ⟨(Nat.le_of_ble_eq_true rfl), (Nat.le_of_ble_eq_true rfl)⟩ rfl hl.1 rfl (Nat.le_of_ble_eq_true rfl) d_R_wordEnd_22 ⟨(Nat.le_of_ble_eq_true rfl), (Nat.le_of_ble_eq_true rfl)⟩) hP hD hS hA (fun r4 u9 H locs hp9 hP hD hS => ?_)
        have hP : va_P D vwCl (ws) H := hP
        have hD : va_D A (ws) := hD
        replace hp9 : bI (isWd (f (q + k))) = r4 := Eq.symm hp9
        subst hp9
        refine lv_if_eq hx hb d_R_wordEnd_25 (tgt := 34) rfl (fun g6 => ?_) (fun g6 => ?_)
        · have g6 := bI_0 g6
          refine lv_iload hx hb d_R_wordEnd_34 (lv_at hl 0 rfl) ?_
          exact rfI hx hb hr hlk hS () (by rw [i3, wlen_f g6, Nat.add_zero]) hP hD (Nat.le_of_ble_eq_true rfl) (Nat.le_of_ble_eq_true rfl) d_R_wordEnd_36
        · have g6 := bI_n0 g6
          refine lv_iinc (k := 0) (v := nI (q + k + 1)) hx hb d_R_wordEnd_28 hl rfl (iincN (q + k) 1 1 (by decide)) (by decide) rfl (fun ls hl => ?_)
          have hl : lv_has ls 5 [(4, .int (nI (q + k + 1))), (3, .int (nI (min len (q + 24)))), (0, .ref arr), (1, .int (nI len)), (2, .int (nI q))] := hl
          refine lv_goto hx hb d_R_wordEnd_31 (tgt := 12) rfl ?_
          exact ih12 _ (by omega) (k + 1) (by omega) (by omega) (by rw [i3, wlen_t (w := 24 - k) (by omega) (by omega) g6, show 24 - k - 1 = 24 - (k + 1) by omega, show q + k + 1 = q + (k + 1) by omega]; omega) rfl H _ ls hP hD hS (lv_sub hl [0, 1, 2, 3, 4] rfl)
  exact L12 _ 0 (by omega) (by omega) (by rw [Nat.zero_add]; rfl) rfl H _ ls hP hD hS (lv_sub hl [0, 1, 2, 3, 4] rfl)
theorem d_R_sameBytes_0 : decode prog_8_method_7_code 0 = .ok (.iload_n 2, 1) := by decide +kernel
theorem d_R_sameBytes_1 : decode prog_8_method_7_code 1 = .ok (.iload_n 1, 1) := by decide +kernel
theorem d_R_sameBytes_2 : decode prog_8_method_7_code 2 = .ok (.isub, 1) := by decide +kernel
theorem d_R_sameBytes_3 : decode prog_8_method_7_code 3 = .ok (.iload 4, 2) := by decide +kernel
theorem d_R_sameBytes_5 : decode prog_8_method_7_code 5 = .ok (.iload_n 3, 1) := by decide +kernel
theorem d_R_sameBytes_6 : decode prog_8_method_7_code 6 = .ok (.isub, 1) := by decide +kernel
theorem d_R_sameBytes_7 : decode prog_8_method_7_code 7 = .ok (.if_icmp .eq 5, 3) := by decide +kernel
theorem d_R_sameBytes_12 : decode prog_8_method_7_code 12 = .ok (.iconst 0, 1) := by decide +kernel
theorem d_R_sameBytes_13 : decode prog_8_method_7_code 13 = .ok (.istore 5, 2) := by decide +kernel
theorem d_R_sameBytes_15 : decode prog_8_method_7_code 15 = .ok (.iload 5, 2) := by decide +kernel
theorem d_R_sameBytes_17 : decode prog_8_method_7_code 17 = .ok (.iload_n 2, 1) := by decide +kernel
theorem d_R_sameBytes_18 : decode prog_8_method_7_code 18 = .ok (.iload_n 1, 1) := by decide +kernel
theorem d_R_sameBytes_19 : decode prog_8_method_7_code 19 = .ok (.isub, 1) := by decide +kernel
theorem d_R_sameBytes_20 : decode prog_8_method_7_code 20 = .ok (.if_icmp .ge 26, 3) := by decide +kernel
theorem d_R_sameBytes_46 : decode prog_8_method_7_code 46 = .ok (.iconst 1, 1) := by decide +kernel
theorem d_R_sameBytes_47 : decode prog_8_method_7_code 47 = .ok (.ireturn, 1) := by decide +kernel
theorem d_R_sameBytes_23 : decode prog_8_method_7_code 23 = .ok (.aload_n 0, 1) := by decide +kernel
theorem d_R_sameBytes_24 : decode prog_8_method_7_code 24 = .ok (.iload_n 1, 1) := by decide +kernel
theorem d_R_sameBytes_25 : decode prog_8_method_7_code 25 = .ok (.iload 5, 2) := by decide +kernel
theorem d_R_sameBytes_27 : decode prog_8_method_7_code 27 = .ok (.iadd, 1) := by decide +kernel
theorem d_R_sameBytes_28 : decode prog_8_method_7_code 28 = .ok (.baload, 1) := by decide +kernel
theorem d_R_sameBytes_29 : decode prog_8_method_7_code 29 = .ok (.aload_n 0, 1) := by decide +kernel
theorem d_R_sameBytes_30 : decode prog_8_method_7_code 30 = .ok (.iload_n 3, 1) := by decide +kernel
theorem d_R_sameBytes_31 : decode prog_8_method_7_code 31 = .ok (.iload 5, 2) := by decide +kernel
theorem d_R_sameBytes_33 : decode prog_8_method_7_code 33 = .ok (.iadd, 1) := by decide +kernel
theorem d_R_sameBytes_34 : decode prog_8_method_7_code 34 = .ok (.baload, 1) := by decide +kernel
theorem d_R_sameBytes_35 : decode prog_8_method_7_code 35 = .ok (.if_icmp .eq 5, 3) := by decide +kernel
theorem d_R_sameBytes_40 : decode prog_8_method_7_code 40 = .ok (.iinc 5 1, 3) := by decide +kernel
theorem d_R_sameBytes_43 : decode prog_8_method_7_code 43 = .ok (.goto (-28), 3) := by decide +kernel
theorem d_R_sameBytes_38 : decode prog_8_method_7_code 38 = .ok (.iconst 0, 1) := by decide +kernel
theorem d_R_sameBytes_39 : decode prog_8_method_7_code 39 = .ok (.ireturn, 1) := by decide +kernel
theorem d_R_sameBytes_10 : decode prog_8_method_7_code 10 = .ok (.iconst 0, 1) := by decide +kernel
theorem d_R_sameBytes_11 : decode prog_8_method_7_code 11 = .ok (.ireturn, 1) := by decide +kernel
set_option maxHeartbeats 4000000 in
set_option maxRecDepth 100000 in
theorem v_sameBytes (l : Launch) (D : va_G) (dA : Nat → ClassId) (sz : Nat) (ws : va_W) (arr : Nat) (n : Nat) (f : Nat → Int32) (a : Nat) (b : Nat) (a2 : Nat) (b2 : Nat) (m1 : (arr, .inl (dA 0, n, .inl f)) ∈ ws) (h1 : a ≤ b) (h2 : a2 ≤ b2) (h3 : b ≤ n) (h4 : b2 ≤ n) (h5 : n ≤ 131072) : Met l ⟨"SeriesVault$SeriesReader", "sameBytes", "([BIIII)Z"⟩ [Cond.code ⟨"SeriesVault$SeriesReader", "sameBytes", "([BIIII)Z"⟩ prog_8_method_7_code 6 (some FieldType.boolean)] { frames := 1, cells := 0, slots := 0, locals := 0 } (pC D dA [.ref arr, .int (nI a), .int (nI b), .int (nI a2), .int (nI b2)] (ws) sz) (va_Qi (fun (r9 : Int32) (u9 : Unit) => r9 = bI (sbB f a b a2 b2)) (fun (u9 : Unit) t9 => bW D (va_A (ws) sz) (ws) t9) (va_A (ws) sz)) 0 0 (va_A (ws) sz) := by
  refine mkC (y := ⟨"SeriesVault$SeriesReader", "sameBytes", "([BIIII)Z"⟩) (cc := prog_8_method_7_code) (maxL := 6) (av := [.ref arr, .int (nI a), .int (nI b), .int (nI a2), .int (nI b2)]) (ws := ws) (sz := sz) (Qc := fun A => va_Qi (fun (r9 : Int32) (u9 : Unit) => r9 = bI (sbB f a b a2 b2)) (fun (u9 : Unit) t9 => bW D A (ws) t9) A) (by decide) (Nat.le_of_ble_eq_true rfl) ?_
  intro A p e s m below meth c ls hsz hB
  obtain ⟨hx, hb, hr, hml, hown, hin, hlk, hE, hK, hP, hD, hS, hA, hN, hl⟩ := hB
  have hown : s.vm.findClass "SeriesVault$SeriesReader" = some m.cls := hown
  have hl : lv_has ls 6 [(0, .ref arr), (1, .int (nI a)), (2, .int (nI b)), (3, .int (nI a2)), (4, .int (nI b2))] := hl
  obtain ⟨H, hH⟩ : ∃ z, z = s.heap := ⟨_, rfl⟩
  have hP : va_P D vwCl (ws) H := by rw [hH]; exact hP
  have hS : va_S A s.heap H [] := by rw [hH]; exact hS
  rw [← hH]
  refine lv_iload_n hx hb d_R_sameBytes_0 rfl (lv_at hl 2 rfl) ?_
  refine lv_iload_n hx hb d_R_sameBytes_1 rfl (lv_at hl 1 rfl) ?_
  refine lv_isub hx hb d_R_sameBytes_2 (tpi (y := nI (b - a)) (pk_sub (a := b) (b := a) (by omega)) ?_)
  refine lv_iload hx hb d_R_sameBytes_3 (lv_at hl 4 rfl) ?_
  refine lv_iload_n hx hb d_R_sameBytes_5 rfl (lv_at hl 3 rfl) ?_
  refine lv_isub hx hb d_R_sameBytes_6 (tpi (y := nI (b2 - a2)) (pk_sub (a := b2) (b := a2) (by omega)) ?_)
  refine lv_icmp_eq hx hb d_R_sameBytes_7 (tgt := 12) rfl (fun g1 => ?_) (fun g1 => ?_)
  · have g1 := (nI_eq (a := b - a) (b := b2 - a2) (by omega) (by omega)).mp g1
    refine lv_iconst (v := 0) hx hb d_R_sameBytes_12 (by decide) ?_
    refine lv_istore hx hb d_R_sameBytes_13 hl (by decide) rfl (fun ls hl => ?_)
    have hl : lv_has ls 6 [(5, .int 0), (0, .ref arr), (1, .int (nI a)), (2, .int (nI b)), (3, .int (nI a2)), (4, .int (nI b2))] := hl
    have L15 : ∀ (k9 : Nat) (i : Nat) (i1 : i ≤ b - a) (i2 : allB i (txQ f a a2) = true) (hk9 : b - a - i = k9), ∀ (H : Heap) (locs : List Loc) (ls : Array Slot) (hP : va_P D vwCl (ws) H) (hD : va_D A (ws)) (hS : va_S A s.heap H locs) (hl : lv_has ls 6 [(5, .int (nI i)), (0, .ref arr), (1, .int (nI a)), (2, .int (nI b)), (3, .int (nI a2)), (4, .int (nI b2))]), W p l e ({ frames := 1, cells := 0, slots := 0, locals := 0 } : Room) s m ([.ref arr, .int (nI a), .int (nI b), .int (nI a2), .int (nI b2)] : List Value).toArray below meth c H locs 0 0 (MQ below (va_Qi (fun (r9 : Int32) (u9 : Unit) => r9 = bI (sbB f a b a2 b2)) (fun (u9 : Unit) t9 => bW D A (ws) t9) A) ([.ref arr, .int (nI a), .int (nI b), .int (nI a2), .int (nI b2)] : List Value).toArray s 0 0 A) (F0 m 15 ls []) := by
      intro k9
      induction k9 using Nat.strongRecOn with
      | ind k9 ih15 =>
        intro i i1 i2 hk9 H locs ls hP hD hS hl
        refine lv_iload hx hb d_R_sameBytes_15 (lv_at hl 0 rfl) ?_
        refine lv_iload_n hx hb d_R_sameBytes_17 rfl (lv_at hl 3 rfl) ?_
        refine lv_iload_n hx hb d_R_sameBytes_18 rfl (lv_at hl 2 rfl) ?_
        refine lv_isub hx hb d_R_sameBytes_19 (tpi (y := nI (b - a)) (pk_sub (a := b) (b := a) (by omega)) ?_)
        refine lv_icmp_ge hx hb d_R_sameBytes_20 (tgt := 46) rfl (fun g2 => ?_) (fun g2 => ?_)
        · have g2 := (nI_leI (a := b - a) (b := i) (by omega) (by omega)).mp g2
          refine lv_iconst (v := 1) hx hb d_R_sameBytes_46 (by decide) ?_
          exact rfZ hx hb hr (bI_nar true) hlk hS () (by unfold sbB; rw [decide_eq_true (by omega), Bool.true_and, ← show i = b - a by omega, i2]; rfl) hP hD (Nat.le_of_ble_eq_true rfl) (Nat.le_of_ble_eq_true rfl) d_R_sameBytes_47
        · have g2 := mt (nI_leI (a := b - a) (b := i) (by omega) (by omega)).mpr g2
          refine lv_aload_n hx hb d_R_sameBytes_23 rfl (lv_at hl 1 rfl) ?_
          refine lv_iload_n hx hb d_R_sameBytes_24 rfl (lv_at hl 2 rfl) ?_
          refine lv_iload hx hb d_R_sameBytes_25 (lv_at hl 0 rfl) ?_
          refine lv_iadd hx hb d_R_sameBytes_27 (tpi (y := nI (a + i)) (nI_add (a) (i)) ?_)
          obtain ⟨qp3, ep4⟩ := List.getElem?_of_mem (show ((arr, .inl (dA 0, n, .inl f)) : Nat × va_E) ∈ ws from m1)
          refine nbld (f := f) (n := n) hx hb hK hP (qp3) 0 ep4 rfl (a + i) (by omega) (by omega) d_R_sameBytes_28 ?_
          refine lv_aload_n hx hb d_R_sameBytes_29 rfl (lv_at hl 1 rfl) ?_
          refine lv_iload_n hx hb d_R_sameBytes_30 rfl (lv_at hl 4 rfl) ?_
          refine lv_iload hx hb d_R_sameBytes_31 (lv_at hl 0 rfl) ?_
          refine lv_iadd hx hb d_R_sameBytes_33 (tpi (y := nI (a2 + i)) (nI_add (a2) (i)) ?_)
          obtain ⟨qp5, ep6⟩ := List.getElem?_of_mem (show ((arr, .inl (dA 0, n, .inl f)) : Nat × va_E) ∈ ws from m1)
          refine nbld (f := f) (n := n) hx hb hK hP (qp5) 0 ep6 rfl (a2 + i) (by omega) (by omega) d_R_sameBytes_34 ?_
          refine lv_icmp_eq hx hb d_R_sameBytes_35 (tgt := 40) rfl (fun g7 => ?_) (fun g7 => ?_)
          · have g7 := g7
            refine lv_iinc (k := 0) (v := nI (i + 1)) hx hb d_R_sameBytes_40 hl rfl (iincN (i) 1 1 (by decide)) (by decide) rfl (fun ls hl => ?_)
            have hl : lv_has ls 6 [(5, .int (nI (i + 1))), (0, .ref arr), (1, .int (nI a)), (2, .int (nI b)), (3, .int (nI a2)), (4, .int (nI b2))] := hl
            refine lv_goto hx hb d_R_sameBytes_43 (tgt := 15) rfl ?_
            exact ih15 _ (by omega) (i + 1) (by omega) (by rw [allB_s, i2, Bool.true_and]; exact decide_eq_true g7) rfl H _ ls hP hD hS (lv_sub hl [0, 1, 2, 3, 4, 5] rfl)
          · have g7 := g7
            refine lv_iconst (v := 0) hx hb d_R_sameBytes_38 (by decide) ?_
            exact rfZ hx hb hr (bI_nar false) hlk hS () (by unfold sbB; rw [allB_1 (f := txQ f a a2) (k := i) (n := b - a) (by omega) (decide_eq_false g7), Bool.and_false]; rfl) hP hD (Nat.le_of_ble_eq_true rfl) (Nat.le_of_ble_eq_true rfl) d_R_sameBytes_39
    exact L15 _ 0 (Nat.zero_le _) rfl rfl H _ ls hP hD hS (lv_sub hl [0, 1, 2, 3, 4, 5] rfl)
  · have g1 := mt (nI_eq (a := b - a) (b := b2 - a2) (by omega) (by omega)).mpr g1
    refine lv_iconst (v := 0) hx hb d_R_sameBytes_10 (by decide) ?_
    exact rfZ hx hb hr (bI_nar false) hlk hS () (by unfold sbB; rw [decide_eq_false g1]; rfl) hP hD (Nat.le_of_ble_eq_true rfl) (Nat.le_of_ble_eq_true rfl) d_R_sameBytes_11
theorem d_R_isThereAlready_0 : decode prog_8_method_6_code 0 = .ok (.iconst 0, 1) := by decide +kernel
theorem d_R_isThereAlready_1 : decode prog_8_method_6_code 1 = .ok (.istore 4, 2) := by decide +kernel
theorem d_R_isThereAlready_3 : decode prog_8_method_6_code 3 = .ok (.iload 4, 2) := by decide +kernel
theorem d_R_isThereAlready_5 : decode prog_8_method_6_code 5 = .ok (.aload_n 0, 1) := by decide +kernel
theorem d_R_isThereAlready_6 : decode prog_8_method_6_code 6 = .ok (.getfield 21, 3) := by decide +kernel
theorem d_R_isThereAlready_9 : decode prog_8_method_6_code 9 = .ok (.if_icmp .ge 34, 3) := by decide +kernel
theorem d_R_isThereAlready_43 : decode prog_8_method_6_code 43 = .ok (.iconst 0, 1) := by decide +kernel
theorem d_R_isThereAlready_44 : decode prog_8_method_6_code 44 = .ok (.ireturn, 1) := by decide +kernel
theorem d_R_isThereAlready_12 : decode prog_8_method_6_code 12 = .ok (.aload_n 1, 1) := by decide +kernel
theorem d_R_isThereAlready_13 : decode prog_8_method_6_code 13 = .ok (.aload_n 0, 1) := by decide +kernel
theorem d_R_isThereAlready_14 : decode prog_8_method_6_code 14 = .ok (.getfield 9, 3) := by decide +kernel
theorem d_R_isThereAlready_17 : decode prog_8_method_6_code 17 = .ok (.iload 4, 2) := by decide +kernel
theorem d_R_isThereAlready_19 : decode prog_8_method_6_code 19 = .ok (.iaload, 1) := by decide +kernel
theorem d_R_isThereAlready_20 : decode prog_8_method_6_code 20 = .ok (.aload_n 0, 1) := by decide +kernel
theorem d_R_isThereAlready_21 : decode prog_8_method_6_code 21 = .ok (.getfield 15, 3) := by decide +kernel
theorem d_R_isThereAlready_24 : decode prog_8_method_6_code 24 = .ok (.iload 4, 2) := by decide +kernel
theorem d_R_isThereAlready_26 : decode prog_8_method_6_code 26 = .ok (.iaload, 1) := by decide +kernel
theorem d_R_isThereAlready_27 : decode prog_8_method_6_code 27 = .ok (.iload_n 2, 1) := by decide +kernel
theorem d_R_isThereAlready_28 : decode prog_8_method_6_code 28 = .ok (.iload_n 3, 1) := by decide +kernel
theorem d_R_isThereAlready_29 : decode prog_8_method_6_code 29 = .ok (.invokestatic 49, 3) := by decide +kernel
theorem d_R_isThereAlready_32 : decode prog_8_method_6_code 32 = .ok (.ifCond .eq 5, 3) := by decide +kernel
theorem d_R_isThereAlready_37 : decode prog_8_method_6_code 37 = .ok (.iinc 4 1, 3) := by decide +kernel
theorem d_R_isThereAlready_40 : decode prog_8_method_6_code 40 = .ok (.goto (-37), 3) := by decide +kernel
theorem d_R_isThereAlready_35 : decode prog_8_method_6_code 35 = .ok (.iconst 1, 1) := by decide +kernel
theorem d_R_isThereAlready_36 : decode prog_8_method_6_code 36 = .ok (.ireturn, 1) := by decide +kernel
theorem w1294 : Cond.methodLink "SeriesVault$SeriesReader" 49 ⟨"SeriesVault$SeriesReader", "sameBytes", "([BIIII)Z"⟩ ∈ aW := aw_of (tb_3 (List.mem_of_getElem? (i := 215) rfl)) rfl
theorem w1295 : Cond.code ⟨"SeriesVault$SeriesReader", "sameBytes", "([BIIII)Z"⟩ prog_8_method_7_code 6 (some FieldType.boolean) ∈ aW := aw_of (tb_3 (List.mem_of_getElem? (i := 217) rfl)) rfl
theorem w1296 : Cond.static ⟨"SeriesVault$SeriesReader", "sameBytes", "([BIIII)Z"⟩ ∈ aW := aw_of (tb_3 (List.mem_of_getElem? (i := 216) rfl)) rfl
set_option maxHeartbeats 4000000 in
set_option maxRecDepth 100000 in
theorem v_isThereAlready (l : Launch) (D : va_G) (dA : Nat → ClassId) (sz : Nat) (h : Nat) (ad : Nat → Nat) (x : VS) (q : Nat) (e1 : Nat) (len : Nat) (h1 : q ≤ e1) (h2 : e1 ≤ x.tpN) (h3 : x.tpN ≤ 131072) (h4 : x.rlab ≤ 6) (h5 : lbOk len x.rlab x.rS x.rE x.rV) (h6 : len ≤ x.tpN) : Met l ⟨"SeriesVault$SeriesReader", "isThereAlready", "([BII)Z"⟩ [Cond.code ⟨"SeriesVault$SeriesReader", "isThereAlready", "([BII)Z"⟩ prog_8_method_6_code 5 (some FieldType.boolean)] { frames := 2, cells := 0, slots := 0, locals := 25 } (pC D dA [.ref (ad 18), .ref x.tpA, .int (nI q), .int (nI e1)] (VW dA h ad x) sz) (va_Qi (fun (r9 : Int32) (u9 : Unit) => r9 = bI (anyB x.rlab (taC x.tape x.rS x.rE q e1))) (fun (u9 : Unit) t9 => bW D (va_A (VW dA h ad x) sz) (VW dA h ad x) t9) (va_A (VW dA h ad x) sz)) 0 0 (va_A (VW dA h ad x) sz) := by
  refine mkC (y := ⟨"SeriesVault$SeriesReader", "isThereAlready", "([BII)Z"⟩) (cc := prog_8_method_6_code) (maxL := 5) (av := [.ref (ad 18), .ref x.tpA, .int (nI q), .int (nI e1)]) (ws := VW dA h ad x) (sz := sz) (Qc := fun A => va_Qi (fun (r9 : Int32) (u9 : Unit) => r9 = bI (anyB x.rlab (taC x.tape x.rS x.rE q e1))) (fun (u9 : Unit) t9 => bW D A (VW dA h ad x) t9) A) (by decide) (Nat.le_of_ble_eq_true rfl) ?_
  intro A p e s m below meth c ls hsz hB
  obtain ⟨hx, hb, hr, hml, hown, hin, hlk, hE, hK, hP, hD, hS, hA, hN, hl⟩ := hB
  have hown : s.vm.findClass "SeriesVault$SeriesReader" = some m.cls := hown
  have hl : lv_has ls 5 [(0, .ref (ad 18)), (1, .ref x.tpA), (2, .int (nI q)), (3, .int (nI e1))] := hl
  obtain ⟨H, hH⟩ : ∃ z, z = s.heap := ⟨_, rfl⟩
  have hP : va_P D vwCl (VW dA h ad x) H := by rw [hH]; exact hP
  have hS : va_S A s.heap H [] := by rw [hH]; exact hS
  rw [← hH]
  refine lv_iconst (v := 0) hx hb d_R_isThereAlready_0 (by decide) ?_
  refine lv_istore hx hb d_R_isThereAlready_1 hl (by decide) rfl (fun ls hl => ?_)
  have hl : lv_has ls 5 [(4, .int 0), (0, .ref (ad 18)), (1, .ref x.tpA), (2, .int (nI q)), (3, .int (nI e1))] := hl
  have L3 : ∀ (k9 : Nat) (k : Nat) (i1 : k ≤ x.rlab) (i2 : anyB k (taC x.tape x.rS x.rE q e1) = false) (hk9 : x.rlab - k = k9), ∀ (H : Heap) (locs : List Loc) (ls : Array Slot) (hP : va_P D vwCl (VW dA h ad x) H) (hD : va_D A (VW dA h ad x)) (hS : va_S A s.heap H locs) (hl : lv_has ls 5 [(4, .int (nI k)), (0, .ref (ad 18)), (1, .ref x.tpA), (2, .int (nI q)), (3, .int (nI e1))]), W p l e ({ frames := 2, cells := 0, slots := 0, locals := 25 } : Room) s m ([.ref (ad 18), .ref x.tpA, .int (nI q), .int (nI e1)] : List Value).toArray below meth c H locs 0 0 (MQ below (va_Qi (fun (r9 : Int32) (u9 : Unit) => r9 = bI (anyB x.rlab (taC x.tape x.rS x.rE q e1))) (fun (u9 : Unit) t9 => bW D A (VW dA h ad x) t9) A) ([.ref (ad 18), .ref x.tpA, .int (nI q), .int (nI e1)] : List Value).toArray s 0 0 A) (F0 m 3 ls []) := by
    intro k9
    induction k9 using Nat.strongRecOn with
    | ind k9 ih3 =>
      intro k i1 i2 hk9 H locs ls hP hD hS hl
      refine lv_iload hx hb d_R_isThereAlready_3 (lv_at hl 0 rfl) ?_
      refine lv_aload_n hx hb d_R_isThereAlready_5 rfl (lv_at hl 1 rfl) ?_
      refine gF (v := .int (nI x.rlab)) hx hb hown hE hK hP 32 rfl rfl layR 3 (by decide) w603 rfl d_R_isThereAlready_6 ?_
      refine lv_icmp_ge hx hb d_R_isThereAlready_9 (tgt := 43) rfl (fun g1 => ?_) (fun g1 => ?_)
      · have g1 := (nI_leI (a := x.rlab) (b := k) (by omega) (by omega)).mp g1
        refine lv_iconst (v := 0) hx hb d_R_isThereAlready_43 (by decide) ?_
        exact rfZ hx hb hr (bI_nar false) hlk hS () (by rw [← show k = x.rlab by omega, i2]; rfl) hP hD (Nat.le_of_ble_eq_true rfl) (Nat.le_of_ble_eq_true rfl) d_R_isThereAlready_44
      · have g1 := mt (nI_leI (a := x.rlab) (b := k) (by omega) (by omega)).mpr g1
        have b5 := h5 k (by omega)
        refine lv_aload_n hx hb d_R_isThereAlready_12 rfl (lv_at hl 2 rfl) ?_
        refine lv_aload_n hx hb d_R_isThereAlready_13 rfl (lv_at hl 1 rfl) ?_
        refine gF (v := .ref (ad 19)) hx hb hown hE hK hP 32 rfl rfl layR 0 (by decide) w206 rfl d_R_isThereAlready_14 ?_
        refine lv_iload hx hb d_R_isThereAlready_17 (lv_at hl 0 rfl) ?_
        refine nild (f := (fun z9 => nI (x.rS z9))) (n := 6) hx hb hK hP (33) 1 rfl rfl (k) (by omega) (by decide) d_R_isThereAlready_19 ?_
        refine lv_aload_n hx hb d_R_isThereAlready_20 rfl (lv_at hl 1 rfl) ?_
        refine gF (v := .ref (ad 20)) hx hb hown hE hK hP 32 rfl rfl layR 1 (by decide) w207 rfl d_R_isThereAlready_21 ?_
        refine lv_iload hx hb d_R_isThereAlready_24 (lv_at hl 0 rfl) ?_
        refine nild (f := (fun z9 => nI (x.rE z9))) (n := 6) hx hb hK hP (34) 1 rfl rfl (k) (by omega) (by decide) d_R_isThereAlready_26 ?_
        refine lv_iload_n hx hb d_R_isThereAlready_27 rfl (lv_at hl 3 rfl) ?_
        refine lv_iload_n hx hb d_R_isThereAlready_28 rfl (lv_at hl 4 rfl) ?_
        refine jkI (wr := []) (rnS (As := [.ref x.tpA, .int (nI (x.rS k)), .int (nI (x.rE k)), .int (nI q), .int (nI e1)]) (rest := []) hx hb hml hown hE hK (hN _ _ hS) hP hD (v_sameBytes l D dA H.size (VW dA h ad x) x.tpA x.tpN x.tape (x.rS k) (x.rE k) q e1 (List.mem_of_getElem? (i := 1) rfl) (show (x.rS k) ≤ (x.rE k) from by omega) (show q ≤ e1 from by omega) (show (x.rE k) ≤ x.tpN from by omega) (show e1 ≤ x.tpN from by omega) (show x.tpN ≤ 131072 from by omega)) w1295 w1294 w1296 w596 rfl rfl ⟨⟨by decide, by decide⟩, rfl⟩ ⟨(Nat.le_of_ble_eq_true rfl), (Nat.le_of_ble_eq_true rfl)⟩ rfl hl.1 rfl (Nat.le_of_ble_eq_true rfl) d_R_isThereAlready_29 ⟨(Nat.le_of_ble_eq_true rfl), (Nat.le_of_ble_eq_true rfl)⟩) hP hD hS hA (fun r2 u3 H locs hp9 hP hD hS => ?_)
        have hP : va_P D vwCl (VW dA h ad x) H := hP
        have hD : va_D A (VW dA h ad x) := hD
        replace hp9 : bI (sbB x.tape (x.rS k) (x.rE k) q e1) = r2 := Eq.symm hp9
        subst hp9
        refine lv_if_eq hx hb d_R_isThereAlready_32 (tgt := 37) rfl (fun g4 => ?_) (fun g4 => ?_)
        · have g4 := bI_0 g4
          refine lv_iinc (k := 0) (v := nI (k + 1)) hx hb d_R_isThereAlready_37 hl rfl (iincN (k) 1 1 (by decide)) (by decide) rfl (fun ls hl => ?_)
          have hl : lv_has ls 5 [(4, .int (nI (k + 1))), (0, .ref (ad 18)), (1, .ref x.tpA), (2, .int (nI q)), (3, .int (nI e1))] := hl
          refine lv_goto hx hb d_R_isThereAlready_40 (tgt := 3) rfl ?_
          exact ih3 _ (by omega) (k + 1) (by omega) (by rw [anyB_s, i2, Bool.false_or]; exact g4) rfl H _ ls hP hD hS (lv_sub hl [0, 1, 2, 3, 4] rfl)
        · have g4 := bI_n0 g4
          refine lv_iconst (v := 1) hx hb d_R_isThereAlready_35 (by decide) ?_
          exact rfZ hx hb hr (bI_nar true) hlk hS () (by rw [anyB_1 (k := k) g4 (by omega)]; rfl) hP hD (Nat.le_of_ble_eq_true rfl) (Nat.le_of_ble_eq_true rfl) d_R_isThereAlready_36
  exact L3 _ 0 (Nat.zero_le _) rfl rfl H _ ls hP hD hS (lv_sub hl [0, 1, 2, 3, 4] rfl)
set_option maxHeartbeats 4000000 in
set_option maxRecDepth 100000 in
theorem v_refuse (l : Launch) (D : va_G) (dA : Nat → ClassId) (sz : Nat) (h : Nat) (ad : Nat → Nat) (x : VS) (kf : Int32) (pf : Int32) : Met l ⟨"SeriesVault$SeriesReader", "refuse", "(II)I"⟩ [Cond.code ⟨"SeriesVault$SeriesReader", "refuse", "(II)I"⟩ prog_8_method_8_code 3 (some FieldType.int)] { frames := 1, cells := 0, slots := 0, locals := 0 } (pC D dA [.ref (ad 18), .int kf, .int pf] (VW dA h ad x) sz) (va_Qi (fun (r9 : Int32) (u9 : Unit) => r9 = (-1)) (fun (u9 : Unit) t9 => bW D (va_A (VW dA h ad x) sz) (VW dA h ad (VS.s_rplace (VS.s_rcode x kf) pf)) t9) (va_A (VW dA h ad x) sz)) 0 0 (va_A (VW dA h ad x) sz) := by
  refine mkC (y := ⟨"SeriesVault$SeriesReader", "refuse", "(II)I"⟩) (cc := prog_8_method_8_code) (maxL := 3) (av := [.ref (ad 18), .int kf, .int pf]) (ws := VW dA h ad x) (sz := sz) (Qc := fun A => va_Qi (fun (r9 : Int32) (u9 : Unit) => r9 = (-1)) (fun (u9 : Unit) t9 => bW D A (VW dA h ad (VS.s_rplace (VS.s_rcode x kf) pf)) t9) A) (by decide) (Nat.le_of_ble_eq_true rfl) ?_
  intro A p e s m below meth c ls hsz hB
  obtain ⟨hx, hb, hr, hml, hown, hin, hlk, hE, hK, hP, hD, hS, hA, hN, hl⟩ := hB
  have hown : s.vm.findClass "SeriesVault$SeriesReader" = some m.cls := hown
  have hl : lv_has ls 3 [(0, .ref (ad 18)), (1, .int kf), (2, .int pf)] := hl
  obtain ⟨H, hH⟩ : ∃ z, z = s.heap := ⟨_, rfl⟩
  have hP : va_P D vwCl (VW dA h ad x) H := by rw [hH]; exact hP
  have hS : va_S A s.heap H [] := by rw [hH]; exact hS
  rw [← hH]
  refine lv_aload_n hx hb d_R_refuse_0 rfl (lv_at hl 0 rfl) ?_
  refine lv_iload_n hx hb d_R_refuse_1 rfl (lv_at hl 1 rfl) ?_
  refine pF (v := .int kf) hx hb hown hE hK hP hD hS 32 rfl rfl layR tyR tokR nmR 4 (by decide) w593 rfl rfl rfl (Nat.le_of_ble_eq_true rfl) d_R_refuse_2 (fun H locs hP hD hS => ?_)
  have hP : va_P D vwCl (VW dA h ad (VS.s_rcode x kf)) H := hP
  have hD : va_D A (VW dA h ad (VS.s_rcode x kf)) := hD
  refine lv_aload_n hx hb d_R_refuse_5 rfl (lv_at hl 0 rfl) ?_
  refine lv_iload_n hx hb d_R_refuse_6 rfl (lv_at hl 2 rfl) ?_
  refine pF (v := .int pf) hx hb hown hE hK hP hD hS 32 rfl rfl layR tyR tokR nmR 5 (by decide) w594 rfl rfl rfl (Nat.le_of_ble_eq_true rfl) d_R_refuse_7 (fun H locs hP hD hS => ?_)
  have hP : va_P D vwCl (VW dA h ad (VS.s_rplace (VS.s_rcode x kf) pf)) H := hP
  have hD : va_D A (VW dA h ad (VS.s_rplace (VS.s_rcode x kf) pf)) := hD
  refine lv_iconst (v := (-1)) hx hb d_R_refuse_10 (by decide) ?_
  exact rfI hx hb hr hlk hS () rfl hP hD (Nat.le_of_ble_eq_true rfl) (Nat.le_of_ble_eq_true rfl) d_R_refuse_11
def VS.rfS (x : VS) (kf : Int32) (pf : Nat) : VS := VS.s_rplace (VS.s_rcode x kf) (nI pf)
def VS.rlS (x : VS) (q n b : Nat) : VS := VS.s_rlab (VS.s_rV (VS.s_rE (VS.s_rS x (va_up x.rS x.rlab q)) (va_up x.rE x.rlab n)) (va_up x.rV x.rlab b)) (x.rlab + 1)
theorem d_R_readLabel_14 : decode prog_8_method_3_code 14 = .ok (.iload 4, 2) := by decide +kernel
theorem d_R_readLabel_16 : decode prog_8_method_3_code 16 = .ok (.iload_n 2, 1) := by decide +kernel
theorem d_R_readLabel_17 : decode prog_8_method_3_code 17 = .ok (.if_icmp .eq 12, 3) := by decide +kernel
theorem d_R_readLabel_20 : decode prog_8_method_3_code 20 = .ok (.aload_n 1, 1) := by decide +kernel
theorem d_R_readLabel_21 : decode prog_8_method_3_code 21 = .ok (.iload 4, 2) := by decide +kernel
theorem d_R_readLabel_23 : decode prog_8_method_3_code 23 = .ok (.baload, 1) := by decide +kernel
theorem d_R_readLabel_24 : decode prog_8_method_3_code 24 = .ok (.bipush 61, 2) := by decide +kernel
theorem d_R_readLabel_26 : decode prog_8_method_3_code 26 = .ok (.if_icmp .eq 12, 3) := by decide +kernel
theorem d_R_readLabel_38 : decode prog_8_method_3_code 38 = .ok (.aload_n 0, 1) := by decide +kernel
theorem d_R_readLabel_39 : decode prog_8_method_3_code 39 = .ok (.getfield 21, 3) := by decide +kernel
theorem d_R_readLabel_42 : decode prog_8_method_3_code 42 = .ok (.bipush 6, 2) := by decide +kernel
theorem d_R_readLabel_44 : decode prog_8_method_3_code 44 = .ok (.if_icmp .eq 14, 3) := by decide +kernel
theorem d_R_readLabel_58 : decode prog_8_method_3_code 58 = .ok (.aload_n 0, 1) := by decide +kernel
theorem d_R_readLabel_59 : decode prog_8_method_3_code 59 = .ok (.bipush 8, 2) := by decide +kernel
theorem d_R_readLabel_61 : decode prog_8_method_3_code 61 = .ok (.iload_n 3, 1) := by decide +kernel
theorem d_R_readLabel_62 : decode prog_8_method_3_code 62 = .ok (.invokevirtual 29, 3) := by decide +kernel
theorem d_R_readLabel_65 : decode prog_8_method_3_code 65 = .ok (.ireturn, 1) := by decide +kernel
theorem d_R_readLabel_47 : decode prog_8_method_3_code 47 = .ok (.aload_n 0, 1) := by decide +kernel
theorem d_R_readLabel_48 : decode prog_8_method_3_code 48 = .ok (.aload_n 1, 1) := by decide +kernel
theorem d_R_readLabel_49 : decode prog_8_method_3_code 49 = .ok (.iload_n 3, 1) := by decide +kernel
theorem d_R_readLabel_50 : decode prog_8_method_3_code 50 = .ok (.iload 4, 2) := by decide +kernel
theorem d_R_readLabel_52 : decode prog_8_method_3_code 52 = .ok (.invokevirtual 36, 3) := by decide +kernel
theorem d_R_readLabel_55 : decode prog_8_method_3_code 55 = .ok (.ifCond .eq 11, 3) := by decide +kernel
theorem d_R_readLabel_66 : decode prog_8_method_3_code 66 = .ok (.aload_n 1, 1) := by decide +kernel
theorem d_R_readLabel_67 : decode prog_8_method_3_code 67 = .ok (.iload_n 2, 1) := by decide +kernel
theorem d_R_readLabel_68 : decode prog_8_method_3_code 68 = .ok (.iload 4, 2) := by decide +kernel
theorem d_R_readLabel_70 : decode prog_8_method_3_code 70 = .ok (.iconst 1, 1) := by decide +kernel
theorem d_R_readLabel_71 : decode prog_8_method_3_code 71 = .ok (.iadd, 1) := by decide +kernel
theorem d_R_readLabel_72 : decode prog_8_method_3_code 72 = .ok (.invokestatic 33, 3) := by decide +kernel
theorem d_R_readLabel_75 : decode prog_8_method_3_code 75 = .ok (.istore 5, 2) := by decide +kernel
theorem d_R_readLabel_77 : decode prog_8_method_3_code 77 = .ok (.iload 5, 2) := by decide +kernel
theorem d_R_readLabel_79 : decode prog_8_method_3_code 79 = .ok (.iload 4, 2) := by decide +kernel
theorem d_R_readLabel_81 : decode prog_8_method_3_code 81 = .ok (.iconst 1, 1) := by decide +kernel
theorem d_R_readLabel_82 : decode prog_8_method_3_code 82 = .ok (.iadd, 1) := by decide +kernel
theorem d_R_readLabel_83 : decode prog_8_method_3_code 83 = .ok (.if_icmp .ne 12, 3) := by decide +kernel
theorem d_R_readLabel_95 : decode prog_8_method_3_code 95 = .ok (.aload_n 0, 1) := by decide +kernel
theorem d_R_readLabel_96 : decode prog_8_method_3_code 96 = .ok (.getfield 9, 3) := by decide +kernel
theorem d_R_readLabel_99 : decode prog_8_method_3_code 99 = .ok (.aload_n 0, 1) := by decide +kernel
theorem d_R_readLabel_100 : decode prog_8_method_3_code 100 = .ok (.getfield 21, 3) := by decide +kernel
theorem d_R_readLabel_103 : decode prog_8_method_3_code 103 = .ok (.iload_n 3, 1) := by decide +kernel
theorem d_R_readLabel_104 : decode prog_8_method_3_code 104 = .ok (.iastore, 1) := by decide +kernel
theorem d_R_readLabel_105 : decode prog_8_method_3_code 105 = .ok (.aload_n 0, 1) := by decide +kernel
theorem d_R_readLabel_106 : decode prog_8_method_3_code 106 = .ok (.getfield 15, 3) := by decide +kernel
theorem d_R_readLabel_109 : decode prog_8_method_3_code 109 = .ok (.aload_n 0, 1) := by decide +kernel
theorem d_R_readLabel_110 : decode prog_8_method_3_code 110 = .ok (.getfield 21, 3) := by decide +kernel
theorem d_R_readLabel_113 : decode prog_8_method_3_code 113 = .ok (.iload 4, 2) := by decide +kernel
theorem d_R_readLabel_115 : decode prog_8_method_3_code 115 = .ok (.iastore, 1) := by decide +kernel
theorem d_R_readLabel_116 : decode prog_8_method_3_code 116 = .ok (.aload_n 0, 1) := by decide +kernel
theorem d_R_readLabel_117 : decode prog_8_method_3_code 117 = .ok (.getfield 18, 3) := by decide +kernel
theorem d_R_readLabel_120 : decode prog_8_method_3_code 120 = .ok (.aload_n 0, 1) := by decide +kernel
theorem d_R_readLabel_121 : decode prog_8_method_3_code 121 = .ok (.getfield 21, 3) := by decide +kernel
theorem d_R_readLabel_124 : decode prog_8_method_3_code 124 = .ok (.iload 5, 2) := by decide +kernel
theorem d_R_readLabel_126 : decode prog_8_method_3_code 126 = .ok (.iastore, 1) := by decide +kernel
theorem d_R_readLabel_127 : decode prog_8_method_3_code 127 = .ok (.aload_n 0, 1) := by decide +kernel
theorem d_R_readLabel_128 : decode prog_8_method_3_code 128 = .ok (.dup, 1) := by decide +kernel
theorem d_R_readLabel_129 : decode prog_8_method_3_code 129 = .ok (.getfield 21, 3) := by decide +kernel
theorem d_R_readLabel_132 : decode prog_8_method_3_code 132 = .ok (.iconst 1, 1) := by decide +kernel
theorem d_R_readLabel_133 : decode prog_8_method_3_code 133 = .ok (.iadd, 1) := by decide +kernel
theorem d_R_readLabel_134 : decode prog_8_method_3_code 134 = .ok (.putfield 21, 3) := by decide +kernel
theorem d_R_readLabel_137 : decode prog_8_method_3_code 137 = .ok (.iload 5, 2) := by decide +kernel
theorem d_R_readLabel_139 : decode prog_8_method_3_code 139 = .ok (.ireturn, 1) := by decide +kernel
theorem d_R_readLabel_86 : decode prog_8_method_3_code 86 = .ok (.aload_n 0, 1) := by decide +kernel
theorem d_R_readLabel_87 : decode prog_8_method_3_code 87 = .ok (.bipush 7, 2) := by decide +kernel
theorem d_R_readLabel_89 : decode prog_8_method_3_code 89 = .ok (.iload 5, 2) := by decide +kernel
theorem d_R_readLabel_91 : decode prog_8_method_3_code 91 = .ok (.invokevirtual 29, 3) := by decide +kernel
theorem d_R_readLabel_94 : decode prog_8_method_3_code 94 = .ok (.ireturn, 1) := by decide +kernel
theorem w1297 : Cond.methodLink "SeriesVault$SeriesReader" 36 ⟨"SeriesVault$SeriesReader", "isThereAlready", "([BII)Z"⟩ ∈ aW := aw_of (tb_3 (List.mem_of_getElem? (i := 211) rfl)) rfl
theorem w1298 : Cond.code ⟨"SeriesVault$SeriesReader", "isThereAlready", "([BII)Z"⟩ prog_8_method_6_code 5 (some FieldType.boolean) ∈ aW := aw_of (tb_3 (List.mem_of_getElem? (i := 214) rfl)) rfl
theorem w1299 : Cond.instanceMethod ⟨"SeriesVault$SeriesReader", "isThereAlready", "([BII)Z"⟩ ∈ aW := aw_of (tb_3 (List.mem_of_getElem? (i := 213) rfl)) rfl
theorem w1300 : Cond.selects "SeriesVault$SeriesReader" ⟨"SeriesVault$SeriesReader", "isThereAlready", "([BII)Z"⟩ ⟨"SeriesVault$SeriesReader", "isThereAlready", "([BII)Z"⟩ ∈ aW := aw_pr (List.mem_map.mpr ⟨_, pv_1 (List.mem_of_getElem? (i := 9) rfl), rfl⟩) rfl
set_option maxHeartbeats 4000000 in
set_option maxRecDepth 100000 in
theorem v_readLabel (l : Launch) (D : va_G) (dA : Nat → ClassId) (sz : Nat) (h : Nat) (ad : Nat → Nat) (x : VS) (len : Nat) (q : Nat) (h1 : q ≤ len) (h2 : len ≤ x.tpN) (h3 : x.tpN ≤ 131072) (h4 : x.rlab ≤ 6) (h5 : lbOk len x.rlab x.rS x.rE x.rV) : Met l ⟨"SeriesVault$SeriesReader", "readLabel", "([BII)I"⟩ [Cond.code ⟨"SeriesVault$SeriesReader", "readLabel", "([BII)I"⟩ prog_8_method_3_code 6 (some FieldType.int)] { frames := 3, cells := 0, slots := 0, locals := 49 } (pC D dA [.ref (ad 18), .ref x.tpA, .int (nI len), .int (nI q)] (VW dA h ad x) sz) (va_Qi (fun (r9 : Int32) (u9 : VS) => (∃ (kf : Int32) (pf : Nat), rlC x.tape len q x.rlab x.rS x.rE = .inl (kf, pf) ∧ r9 = (-1) ∧ u9 = x.rfS kf pf) ∨ (∃ n b : Nat, rlC x.tape len q x.rlab x.rS x.rE = .inr (n, b) ∧ r9 = nI b ∧ u9 = x.rlS q n b)) (fun (u9 : VS) t9 => bW D (va_A (VW dA h ad x) sz) (VW dA h ad u9) t9) (va_A (VW dA h ad x) sz)) 0 0 (va_A (VW dA h ad x) sz) := by
  refine mkC (y := ⟨"SeriesVault$SeriesReader", "readLabel", "([BII)I"⟩) (cc := prog_8_method_3_code) (maxL := 6) (av := [.ref (ad 18), .ref x.tpA, .int (nI len), .int (nI q)]) (ws := VW dA h ad x) (sz := sz) (Qc := fun A => va_Qi (fun (r9 : Int32) (u9 : VS) => (∃ (kf : Int32) (pf : Nat), rlC x.tape len q x.rlab x.rS x.rE = .inl (kf, pf) ∧ r9 = (-1) ∧ u9 = x.rfS kf pf) ∨ (∃ n b : Nat, rlC x.tape len q x.rlab x.rS x.rE = .inr (n, b) ∧ r9 = nI b ∧ u9 = x.rlS q n b)) (fun (u9 : VS) t9 => bW D A (VW dA h ad u9) t9) A) (by decide) (Nat.le_of_ble_eq_true rfl) ?_
  intro A p e s m below meth c ls hsz hB
  obtain ⟨hx, hb, hr, hml, hown, hin, hlk, hE, hK, hP, hD, hS, hA, hN, hl⟩ := hB
  have hown : s.vm.findClass "SeriesVault$SeriesReader" = some m.cls := hown
  have hl : lv_has ls 6 [(0, .ref (ad 18)), (1, .ref x.tpA), (2, .int (nI len)), (3, .int (nI q))] := hl
  obtain ⟨H, hH⟩ : ∃ z, z = s.heap := ⟨_, rfl⟩
  have hP : va_P D vwCl (VW dA h ad x) H := by rw [hH]; exact hP
  have hS : va_S A s.heap H [] := by rw [hH]; exact hS
  rw [← hH]
  refine lv_aload_n hx hb d_R_readLabel_0 rfl (lv_at hl 1 rfl) ?_
  refine lv_iload_n hx hb d_R_readLabel_1 rfl (lv_at hl 2 rfl) ?_
  refine lv_iload_n hx hb d_R_readLabel_2 rfl (lv_at hl 3 rfl) ?_
  refine jkI (wr := []) (rnS (As := [.ref x.tpA, .int (nI len), .int (nI q)]) (rest := []) hx hb hml hown hE hK (hN _ _ hS) hP hD (v_wordEnd l D dA H.size (VW dA h ad x) x.tpA x.tpN x.tape len q (List.mem_of_getElem? (i := 1) rfl) (show q ≤ len from by omega) (show len ≤ x.tpN from by omega) (show x.tpN ≤ 131072 from by omega)) w597 w595 w598 w596 rfl rfl ⟨⟨by decide, by decide⟩, rfl⟩ ⟨(Nat.le_of_ble_eq_true rfl), (Nat.le_of_ble_eq_true rfl)⟩ rfl hl.1 rfl (Nat.le_of_ble_eq_true rfl) d_R_readLabel_3 ⟨(Nat.le_of_ble_eq_true rfl), (Nat.le_of_ble_eq_true rfl)⟩) hP hD hS hA (fun r1 u2 H locs hp9 hP hD hS => ?_)
  have hP : va_P D vwCl (VW dA h ad x) H := hP
  have hD : va_D A (VW dA h ad x) := hD
  replace hp9 : nI (q + wlen x.tape len 24 q) = r1 := Eq.symm hp9
  subst hp9
  refine lv_istore hx hb d_R_readLabel_6 hl (by decide) rfl (fun ls hl => ?_)
  have hl : lv_has ls 6 [(4, .int (nI (q + wlen x.tape len 24 q))), (0, .ref (ad 18)), (1, .ref x.tpA), (2, .int (nI len)), (3, .int (nI q))] := hl
  have w1 := wlen_in (f := x.tape) (len := len) (w := 24) h1
  have w2 := wlen_le x.tape len 24 q
  refine lv_iload hx hb d_R_readLabel_8 (lv_at hl 0 rfl) ?_
  refine lv_iload_n hx hb d_R_readLabel_10 rfl (lv_at hl 4 rfl) ?_
  refine lv_icmp_eq hx hb d_R_readLabel_11 (tgt := 29) rfl (fun g3 => ?_) (fun g3 => ?_)
  · have g3 := (nI_eq (a := q + wlen x.tape len 24 q) (b := q) (by omega) (by omega)).mp g3
    refine lv_aload_n hx hb d_R_readLabel_29 rfl (lv_at hl 1 rfl) ?_
    refine lv_bipush (v := 7) hx hb d_R_readLabel_30 (by decide) ?_
    refine lv_iload hx hb d_R_readLabel_32 (lv_at hl 0 rfl) ?_
    refine jkI (wr := []) (rnV (As := [.int 7, .int (nI (q + wlen x.tape len 24 q))]) (rest := []) hx hb hml hown hE hK (hN _ _ hS) hP hD (v_refuse l D dA H.size h ad x 7 (nI (q + wlen x.tape len 24 q))) (q0 := 32) rfl rfl w600 w599 w601 w602 w596 rfl rfl ⟨⟨by decide, by decide⟩, rfl⟩ ⟨(Nat.le_of_ble_eq_true rfl), (Nat.le_of_ble_eq_true rfl)⟩ rfl hl.1 rfl (Nat.le_of_ble_eq_true rfl) d_R_readLabel_34 ⟨(Nat.le_of_ble_eq_true rfl), (Nat.le_of_ble_eq_true rfl)⟩) hP hD hS hA (fun r4 u5 H locs hp9 hP hD hS => ?_)
    have hP : va_P D vwCl (VW dA h ad (VS.s_rplace (VS.s_rcode x 7) (nI (q + wlen x.tape len 24 q)))) H := hP
    have hD : va_D A (VW dA h ad (VS.s_rplace (VS.s_rcode x 7) (nI (q + wlen x.tape len 24 q)))) := hD
    replace hp9 : (-1) = r4 := Eq.symm hp9
    subst hp9
    exact rfI hx hb hr hlk hS (VS.s_rplace (VS.s_rcode x 7) (nI (q + wlen x.tape len 24 q))) (Or.inl ⟨7, _, rl_a (Or.inl g3), rfl, rfl⟩) hP hD (Nat.le_of_ble_eq_true rfl) (Nat.le_of_ble_eq_true rfl) d_R_readLabel_37
  · have g3 := mt (nI_eq (a := q + wlen x.tape len 24 q) (b := q) (by omega) (by omega)).mpr g3
    refine lv_iload hx hb d_R_readLabel_14 (lv_at hl 0 rfl) ?_
    refine lv_iload_n hx hb d_R_readLabel_16 rfl (lv_at hl 3 rfl) ?_
    refine lv_icmp_eq hx hb d_R_readLabel_17 (tgt := 29) rfl (fun g6 => ?_) (fun g6 => ?_)
    · have g6 := (nI_eq (a := q + wlen x.tape len 24 q) (b := len) (by omega) (by omega)).mp g6
      refine lv_aload_n hx hb d_R_readLabel_29 rfl (lv_at hl 1 rfl) ?_
      refine lv_bipush (v := 7) hx hb d_R_readLabel_30 (by decide) ?_
      refine lv_iload hx hb d_R_readLabel_32 (lv_at hl 0 rfl) ?_
      refine jkI (wr := []) (rnV (As := [.int 7, .int (nI (q + wlen x.tape len 24 q))]) (rest := []) hx hb hml hown hE hK (hN _ _ hS) hP hD (v_refuse l D dA H.size h ad x 7 (nI (q + wlen x.tape len 24 q))) (q0 := 32) rfl rfl w600 w599 w601 w602 w596 rfl rfl ⟨⟨by decide, by decide⟩, rfl⟩ ⟨(Nat.le_of_ble_eq_true rfl), (Nat.le_of_ble_eq_true rfl)⟩ rfl hl.1 rfl (Nat.le_of_ble_eq_true rfl) d_R_readLabel_34 ⟨(Nat.le_of_ble_eq_true rfl), (Nat.le_of_ble_eq_true rfl)⟩) hP hD hS hA (fun r7 u8 H locs hp9 hP hD hS => ?_)
      have hP : va_P D vwCl (VW dA h ad (VS.s_rplace (VS.s_rcode x 7) (nI (q + wlen x.tape len 24 q)))) H := hP
      have hD : va_D A (VW dA h ad (VS.s_rplace (VS.s_rcode x 7) (nI (q + wlen x.tape len 24 q)))) := hD
      replace hp9 : (-1) = r7 := Eq.symm hp9
      subst hp9
      exact rfI hx hb hr hlk hS (VS.s_rplace (VS.s_rcode x 7) (nI (q + wlen x.tape len 24 q))) (Or.inl ⟨7, _, rl_a (Or.inr (Or.inl g6)), rfl, rfl⟩) hP hD (Nat.le_of_ble_eq_true rfl) (Nat.le_of_ble_eq_true rfl) d_R_readLabel_37
    · have g6 := mt (nI_eq (a := q + wlen x.tape len 24 q) (b := len) (by omega) (by omega)).mpr g6
      refine lv_aload_n hx hb d_R_readLabel_20 rfl (lv_at hl 2 rfl) ?_
      refine lv_iload hx hb d_R_readLabel_21 (lv_at hl 0 rfl) ?_
      refine nbld (f := x.tape) (n := x.tpN) hx hb hK hP (1) 0 rfl rfl (q + wlen x.tape len 24 q) (by omega) (by omega) d_R_readLabel_23 ?_
      refine lv_bipush (v := 61) hx hb d_R_readLabel_24 (by decide) ?_
      refine lv_icmp_eq hx hb d_R_readLabel_26 (tgt := 38) rfl (fun g9 => ?_) (fun g9 => ?_)
      · have g9 := g9
        refine lv_aload_n hx hb d_R_readLabel_38 rfl (lv_at hl 1 rfl) ?_
        have w5 : q + wlen x.tape len 24 q < len := by omega
        refine gF (v := .int (nI x.rlab)) hx hb hown hE hK hP 32 rfl rfl layR 3 (by decide) w603 rfl d_R_readLabel_39 ?_
        refine lv_bipush (v := 6) hx hb d_R_readLabel_42 (by decide) ?_
        refine lv_icmp_eq hx hb d_R_readLabel_44 (tgt := 58) rfl (fun g10 => ?_) (fun g10 => ?_)
        · have g10 := (nI_eq (a := x.rlab) (b := 6) (by omega) (by omega)).mp g10
          refine lv_aload_n hx hb d_R_readLabel_58 rfl (lv_at hl 1 rfl) ?_
          refine lv_bipush (v := 8) hx hb d_R_readLabel_59 (by decide) ?_
          refine lv_iload_n hx hb d_R_readLabel_61 rfl (lv_at hl 4 rfl) ?_
          refine jkI (wr := []) (rnV (As := [.int 8, .int (nI q)]) (rest := []) hx hb hml hown hE hK (hN _ _ hS) hP hD (v_refuse l D dA H.size h ad x 8 (nI q)) (q0 := 32) rfl rfl w600 w599 w601 w602 w596 rfl rfl ⟨⟨by decide, by decide⟩, rfl⟩ ⟨(Nat.le_of_ble_eq_true rfl), (Nat.le_of_ble_eq_true rfl)⟩ rfl hl.1 rfl (Nat.le_of_ble_eq_true rfl) d_R_readLabel_62 ⟨(Nat.le_of_ble_eq_true rfl), (Nat.le_of_ble_eq_true rfl)⟩) hP hD hS hA (fun r11 u12 H locs hp9 hP hD hS => ?_)
          have hP : va_P D vwCl (VW dA h ad (VS.s_rplace (VS.s_rcode x 8) (nI q))) H := hP
          have hD : va_D A (VW dA h ad (VS.s_rplace (VS.s_rcode x 8) (nI q))) := hD
          replace hp9 : (-1) = r11 := Eq.symm hp9
          subst hp9
          exact rfI hx hb hr hlk hS (VS.s_rplace (VS.s_rcode x 8) (nI q)) (Or.inl ⟨8, _, rl_b g3 g6 g9 (Or.inl g10), rfl, rfl⟩) hP hD (Nat.le_of_ble_eq_true rfl) (Nat.le_of_ble_eq_true rfl) d_R_readLabel_65
        · have g10 := mt (nI_eq (a := x.rlab) (b := 6) (by omega) (by omega)).mpr g10
          refine lv_aload_n hx hb d_R_readLabel_47 rfl (lv_at hl 1 rfl) ?_
          refine lv_aload_n hx hb d_R_readLabel_48 rfl (lv_at hl 2 rfl) ?_
          refine lv_iload_n hx hb d_R_readLabel_49 rfl (lv_at hl 4 rfl) ?_
          refine lv_iload hx hb d_R_readLabel_50 (lv_at hl 0 rfl) ?_
          refine jkI (wr := []) (rnV (As := [.ref x.tpA, .int (nI q), .int (nI (q + wlen x.tape len 24 q))]) (rest := []) hx hb hml hown hE hK (hN _ _ hS) hP hD (v_isThereAlready l D dA H.size h ad x q (q + wlen x.tape len 24 q) len (show q ≤ (q + wlen x.tape len 24 q) from by omega) (show (q + wlen x.tape len 24 q) ≤ x.tpN from by omega) (show x.tpN ≤ 131072 from by omega) (show x.rlab ≤ 6 from by omega) h5 (show len ≤ x.tpN from by omega)) (q0 := 32) rfl rfl w1298 w1297 w1299 w1300 w596 rfl rfl ⟨⟨by decide, by decide⟩, rfl⟩ ⟨(Nat.le_of_ble_eq_true rfl), (Nat.le_of_ble_eq_true rfl)⟩ rfl hl.1 rfl (Nat.le_of_ble_eq_true rfl) d_R_readLabel_52 ⟨(Nat.le_of_ble_eq_true rfl), (Nat.le_of_ble_eq_true rfl)⟩) hP hD hS hA (fun r13 u14 H locs hp9 hP hD hS => ?_)
          have hP : va_P D vwCl (VW dA h ad x) H := hP
          have hD : va_D A (VW dA h ad x) := hD
          replace hp9 : bI (anyB x.rlab (taC x.tape x.rS x.rE q (q + wlen x.tape len 24 q))) = r13 := Eq.symm hp9
          subst hp9
          refine lv_if_eq hx hb d_R_readLabel_55 (tgt := 66) rfl (fun g15 => ?_) (fun g15 => ?_)
          · have g15 := bI_0 g15
            refine lv_aload_n hx hb d_R_readLabel_66 rfl (lv_at hl 2 rfl) ?_
            refine lv_iload_n hx hb d_R_readLabel_67 rfl (lv_at hl 3 rfl) ?_
            refine lv_iload hx hb d_R_readLabel_68 (lv_at hl 0 rfl) ?_
            refine lv_iconst (v := 1) hx hb d_R_readLabel_70 (by decide) ?_
            refine lv_iadd hx hb d_R_readLabel_71 (tpi (y := nI (q + wlen x.tape len 24 q + 1)) (nI_add (q + wlen x.tape len 24 q) (1)) ?_)
            refine jkI (wr := []) (rnS (As := [.ref x.tpA, .int (nI len), .int (nI (q + wlen x.tape len 24 q + 1))]) (rest := []) hx hb hml hown hE hK (hN _ _ hS) hP hD (v_wordEnd l D dA H.size (VW dA h ad x) x.tpA x.tpN x.tape len (q + wlen x.tape len 24 q + 1) (List.mem_of_getElem? (i := 1) rfl) (show (q + wlen x.tape len 24 q + 1) ≤ len from by omega) (show len ≤ x.tpN from by omega) (show x.tpN ≤ 131072 from by omega)) w597 w595 w598 w596 rfl rfl ⟨⟨by decide, by decide⟩, rfl⟩ ⟨(Nat.le_of_ble_eq_true rfl), (Nat.le_of_ble_eq_true rfl)⟩ rfl hl.1 rfl (Nat.le_of_ble_eq_true rfl) d_R_readLabel_72 ⟨(Nat.le_of_ble_eq_true rfl), (Nat.le_of_ble_eq_true rfl)⟩) hP hD hS hA (fun r16 u17 H locs hp9 hP hD hS => ?_)
            have hP : va_P D vwCl (VW dA h ad x) H := hP
            have hD : va_D A (VW dA h ad x) := hD
            replace hp9 : nI ((q + wlen x.tape len 24 q + 1) + wlen x.tape len 24 (q + wlen x.tape len 24 q + 1)) = r16 := Eq.symm hp9
            subst hp9
            refine lv_istore hx hb d_R_readLabel_75 hl (by decide) rfl (fun ls hl => ?_)
            have hl : lv_has ls 6 [(5, .int (nI ((q + wlen x.tape len 24 q + 1) + wlen x.tape len 24 (q + wlen x.tape len 24 q + 1)))), (4, .int (nI (q + wlen x.tape len 24 q))), (0, .ref (ad 18)), (1, .ref x.tpA), (2, .int (nI len)), (3, .int (nI q))] := hl
            have w3 := wlen_in (f := x.tape) (len := len) (w := 24) (show q + wlen x.tape len 24 q + 1 ≤ len by omega)
            have w4 := wlen_le x.tape len 24 (q + wlen x.tape len 24 q + 1)
            refine lv_iload hx hb d_R_readLabel_77 (lv_at hl 0 rfl) ?_
            refine lv_iload hx hb d_R_readLabel_79 (lv_at hl 1 rfl) ?_
            refine lv_iconst (v := 1) hx hb d_R_readLabel_81 (by decide) ?_
            refine lv_iadd hx hb d_R_readLabel_82 (tpi (y := nI (q + wlen x.tape len 24 q + 1)) (nI_add (q + wlen x.tape len 24 q) (1)) ?_)
            refine lv_icmp_ne hx hb d_R_readLabel_83 (tgt := 95) rfl (fun g18 => ?_) (fun g18 => ?_)
            · have g18 := mt (nI_eq (a := (q + wlen x.tape len 24 q + 1) + wlen x.tape len 24 (q + wlen x.tape len 24 q + 1)) (b := q + wlen x.tape len 24 q + 1) (by omega) (by omega)).mpr g18
              refine lv_aload_n hx hb d_R_readLabel_95 rfl (lv_at hl 2 rfl) ?_
              refine gF (v := .ref (ad 19)) hx hb hown hE hK hP 32 rfl rfl layR 0 (by decide) w206 rfl d_R_readLabel_96 ?_
              refine lv_aload_n hx hb d_R_readLabel_99 rfl (lv_at hl 2 rfl) ?_
              refine gF (v := .int (nI x.rlab)) hx hb hown hE hK hP 32 rfl rfl layR 3 (by decide) w603 rfl d_R_readLabel_100 ?_
              refine lv_iload_n hx hb d_R_readLabel_103 rfl (lv_at hl 5 rfl) ?_
              refine nistN (v := q) (n := 6) hx hb hK hP hD hS (33) 1 rfl rfl (x.rlab) (by omega) (by decide) d_R_readLabel_104 (fun H locs hP hD hS => ?_)
              have hP : va_P D vwCl (VW dA h ad (VS.s_rS x (va_up x.rS x.rlab q))) H := hP
              have hD : va_D A (VW dA h ad (VS.s_rS x (va_up x.rS x.rlab q))) := hD
              refine lv_aload_n hx hb d_R_readLabel_105 rfl (lv_at hl 2 rfl) ?_
              refine gF (v := .ref (ad 20)) hx hb hown hE hK hP 32 rfl rfl layR 1 (by decide) w207 rfl d_R_readLabel_106 ?_
              refine lv_aload_n hx hb d_R_readLabel_109 rfl (lv_at hl 2 rfl) ?_
              refine gF (v := .int (nI x.rlab)) hx hb hown hE hK hP 32 rfl rfl layR 3 (by decide) w603 rfl d_R_readLabel_110 ?_
              refine lv_iload hx hb d_R_readLabel_113 (lv_at hl 1 rfl) ?_
              refine nistN (v := q + wlen x.tape len 24 q) (n := 6) hx hb hK hP hD hS (34) 1 rfl rfl (x.rlab) (by omega) (by decide) d_R_readLabel_115 (fun H locs hP hD hS => ?_)
              have hP : va_P D vwCl (VW dA h ad (VS.s_rE (VS.s_rS x (va_up x.rS x.rlab q)) (va_up x.rE x.rlab (q + wlen x.tape len 24 q)))) H := hP
              have hD : va_D A (VW dA h ad (VS.s_rE (VS.s_rS x (va_up x.rS x.rlab q)) (va_up x.rE x.rlab (q + wlen x.tape len 24 q)))) := hD
              refine lv_aload_n hx hb d_R_readLabel_116 rfl (lv_at hl 2 rfl) ?_
              refine gF (v := .ref (ad 21)) hx hb hown hE hK hP 32 rfl rfl layR 2 (by decide) w208 rfl d_R_readLabel_117 ?_
              refine lv_aload_n hx hb d_R_readLabel_120 rfl (lv_at hl 2 rfl) ?_
              refine gF (v := .int (nI x.rlab)) hx hb hown hE hK hP 32 rfl rfl layR 3 (by decide) w603 rfl d_R_readLabel_121 ?_
              refine lv_iload hx hb d_R_readLabel_124 (lv_at hl 0 rfl) ?_
              refine nistN (v := (q + wlen x.tape len 24 q + 1) + wlen x.tape len 24 (q + wlen x.tape len 24 q + 1)) (n := 6) hx hb hK hP hD hS (35) 1 rfl rfl (x.rlab) (by omega) (by decide) d_R_readLabel_126 (fun H locs hP hD hS => ?_)
              have hP : va_P D vwCl (VW dA h ad (VS.s_rV (VS.s_rE (VS.s_rS x (va_up x.rS x.rlab q)) (va_up x.rE x.rlab (q + wlen x.tape len 24 q))) (va_up x.rV x.rlab ((q + wlen x.tape len 24 q + 1) + wlen x.tape len 24 (q + wlen x.tape len 24 q + 1))))) H := hP
              have hD : va_D A (VW dA h ad (VS.s_rV (VS.s_rE (VS.s_rS x (va_up x.rS x.rlab q)) (va_up x.rE x.rlab (q + wlen x.tape len 24 q))) (va_up x.rV x.rlab ((q + wlen x.tape len 24 q + 1) + wlen x.tape len 24 (q + wlen x.tape len 24 q + 1))))) := hD
              refine lv_aload_n hx hb d_R_readLabel_127 rfl (lv_at hl 2 rfl) ?_
              refine lv_dup hx hb d_R_readLabel_128 rfl ?_
              refine gF (v := .int (nI x.rlab)) hx hb hown hE hK hP 32 rfl rfl layR 3 (by decide) w603 rfl d_R_readLabel_129 ?_
              refine lv_iconst (v := 1) hx hb d_R_readLabel_132 (by decide) ?_
              refine lv_iadd hx hb d_R_readLabel_133 (tpi (y := nI (x.rlab + 1)) (nI_add (x.rlab) (1)) ?_)
              refine pF (v := .int (nI (x.rlab + 1))) hx hb hown hE hK hP hD hS 32 rfl rfl layR tyR tokR nmR 3 (by decide) w603 rfl rfl rfl (Nat.le_of_ble_eq_true rfl) d_R_readLabel_134 (fun H locs hP hD hS => ?_)
              have hP : va_P D vwCl (VW dA h ad (VS.s_rlab (VS.s_rV (VS.s_rE (VS.s_rS x (va_up x.rS x.rlab q)) (va_up x.rE x.rlab (q + wlen x.tape len 24 q))) (va_up x.rV x.rlab ((q + wlen x.tape len 24 q + 1) + wlen x.tape len 24 (q + wlen x.tape len 24 q + 1)))) (x.rlab + 1))) H := hP
              have hD : va_D A (VW dA h ad (VS.s_rlab (VS.s_rV (VS.s_rE (VS.s_rS x (va_up x.rS x.rlab q)) (va_up x.rE x.rlab (q + wlen x.tape len 24 q))) (va_up x.rV x.rlab ((q + wlen x.tape len 24 q + 1) + wlen x.tape len 24 (q + wlen x.tape len 24 q + 1)))) (x.rlab + 1))) := hD
              refine lv_iload hx hb d_R_readLabel_137 (lv_at hl 0 rfl) ?_
              exact rfI hx hb hr hlk hS (VS.s_rlab (VS.s_rV (VS.s_rE (VS.s_rS x (va_up x.rS x.rlab q)) (va_up x.rE x.rlab (q + wlen x.tape len 24 q))) (va_up x.rV x.rlab ((q + wlen x.tape len 24 q + 1) + wlen x.tape len 24 (q + wlen x.tape len 24 q + 1)))) (x.rlab + 1)) (Or.inr ⟨_, _, rl_d g3 g6 g9 g10 g15 g18, rfl, rfl⟩) hP hD (Nat.le_of_ble_eq_true rfl) (Nat.le_of_ble_eq_true rfl) d_R_readLabel_139
            · have g18 := (nI_eq (a := (q + wlen x.tape len 24 q + 1) + wlen x.tape len 24 (q + wlen x.tape len 24 q + 1)) (b := q + wlen x.tape len 24 q + 1) (by omega) (by omega)).mp g18
              refine lv_aload_n hx hb d_R_readLabel_86 rfl (lv_at hl 2 rfl) ?_
              refine lv_bipush (v := 7) hx hb d_R_readLabel_87 (by decide) ?_
              refine lv_iload hx hb d_R_readLabel_89 (lv_at hl 0 rfl) ?_
              refine jkI (wr := []) (rnV (As := [.int 7, .int (nI ((q + wlen x.tape len 24 q + 1) + wlen x.tape len 24 (q + wlen x.tape len 24 q + 1)))]) (rest := []) hx hb hml hown hE hK (hN _ _ hS) hP hD (v_refuse l D dA H.size h ad x 7 (nI ((q + wlen x.tape len 24 q + 1) + wlen x.tape len 24 (q + wlen x.tape len 24 q + 1)))) (q0 := 32) rfl rfl w600 w599 w601 w602 w596 rfl rfl ⟨⟨by decide, by decide⟩, rfl⟩ ⟨(Nat.le_of_ble_eq_true rfl), (Nat.le_of_ble_eq_true rfl)⟩ rfl hl.1 rfl (Nat.le_of_ble_eq_true rfl) d_R_readLabel_91 ⟨(Nat.le_of_ble_eq_true rfl), (Nat.le_of_ble_eq_true rfl)⟩) hP hD hS hA (fun r19 u20 H locs hp9 hP hD hS => ?_)
              have hP : va_P D vwCl (VW dA h ad (VS.s_rplace (VS.s_rcode x 7) (nI ((q + wlen x.tape len 24 q + 1) + wlen x.tape len 24 (q + wlen x.tape len 24 q + 1))))) H := hP
              have hD : va_D A (VW dA h ad (VS.s_rplace (VS.s_rcode x 7) (nI ((q + wlen x.tape len 24 q + 1) + wlen x.tape len 24 (q + wlen x.tape len 24 q + 1))))) := hD
              replace hp9 : (-1) = r19 := Eq.symm hp9
              subst hp9
              exact rfI hx hb hr hlk hS (VS.s_rplace (VS.s_rcode x 7) (nI ((q + wlen x.tape len 24 q + 1) + wlen x.tape len 24 (q + wlen x.tape len 24 q + 1)))) (Or.inl ⟨7, _, rl_c g3 g6 g9 g10 g15 g18, rfl, rfl⟩) hP hD (Nat.le_of_ble_eq_true rfl) (Nat.le_of_ble_eq_true rfl) d_R_readLabel_94
          · have g15 := bI_n0 g15
            refine lv_aload_n hx hb d_R_readLabel_58 rfl (lv_at hl 1 rfl) ?_
            refine lv_bipush (v := 8) hx hb d_R_readLabel_59 (by decide) ?_
            refine lv_iload_n hx hb d_R_readLabel_61 rfl (lv_at hl 4 rfl) ?_
            refine jkI (wr := []) (rnV (As := [.int 8, .int (nI q)]) (rest := []) hx hb hml hown hE hK (hN _ _ hS) hP hD (v_refuse l D dA H.size h ad x 8 (nI q)) (q0 := 32) rfl rfl w600 w599 w601 w602 w596 rfl rfl ⟨⟨by decide, by decide⟩, rfl⟩ ⟨(Nat.le_of_ble_eq_true rfl), (Nat.le_of_ble_eq_true rfl)⟩ rfl hl.1 rfl (Nat.le_of_ble_eq_true rfl) d_R_readLabel_62 ⟨(Nat.le_of_ble_eq_true rfl), (Nat.le_of_ble_eq_true rfl)⟩) hP hD hS hA (fun r21 u22 H locs hp9 hP hD hS => ?_)
            have hP : va_P D vwCl (VW dA h ad (VS.s_rplace (VS.s_rcode x 8) (nI q))) H := hP
            have hD : va_D A (VW dA h ad (VS.s_rplace (VS.s_rcode x 8) (nI q))) := hD
            replace hp9 : (-1) = r21 := Eq.symm hp9
            subst hp9
            exact rfI hx hb hr hlk hS (VS.s_rplace (VS.s_rcode x 8) (nI q)) (Or.inl ⟨8, _, rl_b g3 g6 g9 (Or.inr g15), rfl, rfl⟩) hP hD (Nat.le_of_ble_eq_true rfl) (Nat.le_of_ble_eq_true rfl) d_R_readLabel_65
      · have g9 := g9
        refine lv_aload_n hx hb d_R_readLabel_29 rfl (lv_at hl 1 rfl) ?_
        refine lv_bipush (v := 7) hx hb d_R_readLabel_30 (by decide) ?_
        refine lv_iload hx hb d_R_readLabel_32 (lv_at hl 0 rfl) ?_
        refine jkI (wr := []) (rnV (As := [.int 7, .int (nI (q + wlen x.tape len 24 q))]) (rest := []) hx hb hml hown hE hK (hN _ _ hS) hP hD (v_refuse l D dA H.size h ad x 7 (nI (q + wlen x.tape len 24 q))) (q0 := 32) rfl rfl w600 w599 w601 w602 w596 rfl rfl ⟨⟨by decide, by decide⟩, rfl⟩ ⟨(Nat.le_of_ble_eq_true rfl), (Nat.le_of_ble_eq_true rfl)⟩ rfl hl.1 rfl (Nat.le_of_ble_eq_true rfl) d_R_readLabel_34 ⟨(Nat.le_of_ble_eq_true rfl), (Nat.le_of_ble_eq_true rfl)⟩) hP hD hS hA (fun r23 u24 H locs hp9 hP hD hS => ?_)
        have hP : va_P D vwCl (VW dA h ad (VS.s_rplace (VS.s_rcode x 7) (nI (q + wlen x.tape len 24 q)))) H := hP
        have hD : va_D A (VW dA h ad (VS.s_rplace (VS.s_rcode x 7) (nI (q + wlen x.tape len 24 q)))) := hD
        replace hp9 : (-1) = r23 := Eq.symm hp9
        subst hp9
        exact rfI hx hb hr hlk hS (VS.s_rplace (VS.s_rcode x 7) (nI (q + wlen x.tape len 24 q))) (Or.inl ⟨7, _, rl_a (Or.inr (Or.inr g9)), rfl, rfl⟩) hP hD (Nat.le_of_ble_eq_true rfl) (Nat.le_of_ble_eq_true rfl) d_R_readLabel_37
end
section
def VS.lbS (x : VS) (c : Nat) (S E V : Nat → Nat) : VS := VS.s_rlab (VS.s_rV (VS.s_rE (VS.s_rS x S) E) V) c
/-- a label as it lies on the tape; labels by rising names -/
def rawL (f : Nat → Int32) (S E V : Nat → Nat) (k : Nat) : LB := (seg f (S k) (E k), seg f (E k + 1) (V k))
def insP (n : List Int32) (L : List LB) : Nat → Nat
  | 0 => 0
  | k + 1 => if 0 < cmpW (lab L k).1 n then insP n L k else k + 1
theorem insP_le (n : List Int32) (L : List LB) : ∀ k, insP n L k ≤ k
  | 0 => Nat.le_refl _
  | k + 1 => by
    unfold insP
    split
    · have := insP_le n L k
      omega
    · exact Nat.le_refl _
def insL (l : LB) (L : List LB) : List LB := L.take (insP l.1 L L.length) ++ (l :: L.drop (insP l.1 L L.length))
def srtL (f : Nat → Int32) (S E V : Nat → Nat) : Nat → List LB
  | 0 => []
  | i + 1 => insL (rawL f S E V i) (srtL f S E V i)
theorem insL_len (l : LB) (L : List LB) : (insL l L).length = L.length + 1 := by
  have := insP_le l.1 L L.length
  unfold insL
  rw [List.length_append, List.length_take, List.length_cons, List.length_drop]
  omega
theorem srtL_len (f : Nat → Int32) (S E V : Nat → Nat) : ∀ i, (srtL f S E V i).length = i
  | 0 => rfl
  | i + 1 => by
    show (insL _ (srtL f S E V i)).length = _
    rw [insL_len, srtL_len f S E V i]
theorem lab_ins (l : LB) (L : List LB) (k : Nat) : lab (insL l L) k = if k < insP l.1 L L.length then lab L k else if k = insP l.1 L L.length then l else lab L (k - 1) := by
  have hp := insP_le l.1 L L.length
  unfold lab insL
  have hl : (L.take (insP l.1 L L.length)).length = insP l.1 L L.length := by rw [List.length_take]; omega
  by_cases h : k < insP l.1 L L.length
  · rw [if_pos h, List.getD_eq_getElem?_getD, List.getElem?_append_left (by omega), List.getElem?_take_of_lt h, ← List.getD_eq_getElem?_getD]
  · rw [if_neg h, List.getD_eq_getElem?_getD, List.getElem?_append_right (by omega), hl]
    by_cases e : k = insP l.1 L L.length
    · rw [if_pos e, e, Nat.sub_self]
      rfl
    · rw [if_neg e]
      obtain ⟨j, hj⟩ : ∃ j, k - insP l.1 L L.length = j + 1 := ⟨k - insP l.1 L L.length - 1, by omega⟩
      rw [hj, List.getElem?_cons_succ, List.getElem?_drop, ← List.getD_eq_getElem?_getD]
      congr 1
      omega
/-- a row moved up by one between p and i -/
def shU {α : Type} (f : Nat → α) (p i : Nat) : Nat → α := fun z => if p < z ∧ z ≤ i then f (z - 1) else f z
theorem shU_0 {α : Type} (f : Nat → α) (i : Nat) : shU f i i = f := by
  funext z
  unfold shU
  rw [if_neg (by omega)]
theorem shU_lt {α : Type} (f : Nat → α) {p i z : Nat} (h : z ≤ p) : shU f p i z = f z := by
  unfold shU
  rw [if_neg (by omega)]
theorem shU_s {α : Type} {f : Nat → α} {p i : Nat} {v : α} (hp : 0 < p) (hi : p ≤ i) (hv : v = f (p - 1)) : va_up (shU f p i) p v = shU f (p - 1) i := by
  funext z
  show (if z = p then v else if p < z ∧ z ≤ i then f (z - 1) else f z) = if p - 1 < z ∧ z ≤ i then f (z - 1) else f z
  by_cases e : z = p
  · subst e
    rw [if_pos rfl, if_pos (by omega), hv]
  · rw [if_neg e]
    by_cases g : p < z ∧ z ≤ i
    · rw [if_pos g, if_pos (by omega)]
    · rw [if_neg g, if_neg (by omega)]
/-- the labels of rows of words -/
def lbW (dA : Nat → ClassId) (pl : va_W) (fn fv : Nat → Option Nat) (L : List LB) : Prop := ∀ k, k < L.length → ∃ p q : Nat, fn k = some p ∧ isWo dA pl p (lab L k).1 ∧ fv k = some q ∧ isWo dA pl q (lab L k).2
theorem lbW_ins {dA : Nat → ClassId} {pl : va_W} {fn fv : Nat → Option Nat} {L : List LB} {l : LB} {a b : Nat} (h : lbW dA pl fn fv L) (h1 : isWo dA pl a l.1) (h2 : isWo dA pl b l.2) : lbW dA pl (va_up (shU fn (insP l.1 L L.length) L.length) (insP l.1 L L.length) (some a)) (va_up (shU fv (insP l.1 L L.length) L.length) (insP l.1 L L.length) (some b)) (insL l L) := by
  intro k hk
  rw [insL_len] at hk
  have hp := insP_le l.1 L L.length
  rw [lab_ins]
  by_cases h3 : k < insP l.1 L L.length
  · obtain ⟨p, q, a1, a2, a3, a4⟩ := h k (by omega)
    rw [if_pos h3, va_up_ne _ _ (by omega), va_up_ne _ _ (by omega), shU_lt _ (by omega), shU_lt _ (by omega)]
    exact ⟨p, q, a1, a2, a3, a4⟩
  · rw [if_neg h3]
    by_cases e : k = insP l.1 L L.length
    · rw [if_pos e, e, va_up_self, va_up_self]
      exact ⟨a, b, rfl, h1, rfl, h2⟩
    · rw [if_neg e, va_up_ne _ _ e, va_up_ne _ _ e]
      unfold shU
      rw [if_pos (by omega), if_pos (by omega)]
      exact h (k - 1) (by omega)
theorem lbW_m {dA : Nat → ClassId} {pl pl' : va_W} {fn fv : Nat → Option Nat} {L : List LB} (hs : ∀ c, c ∈ pl → c ∈ pl') (h : lbW dA pl fn fv L) : lbW dA pl' fn fv L := by
  intro k hk
  obtain ⟨p, q, a1, a2, a3, a4⟩ := h k hk
  exact ⟨p, q, a1, isWo_m hs a2, a3, isWo_m hs a4⟩
theorem srt_ok {f : Nat → Int32} {S E V : Nat → Nat} {len c : Nat} (h : lbOk len c S E V) : ∀ {i : Nat}, i ≤ c → ∀ k, k < i → (lab (srtL f S E V i) k).1.length ≤ 24 ∧ (lab (srtL f S E V i) k).2.length ≤ 24
  | 0, _, k, hk => absurd hk (Nat.not_lt_zero k)
  | i + 1, hi, k, hk => by
    have hb := h i (by omega)
    show (lab (insL (rawL f S E V i) (srtL f S E V i)) k).1.length ≤ 24 ∧ (lab (insL (rawL f S E V i) (srtL f S E V i)) k).2.length ≤ 24
    have hp := insP_le (rawL f S E V i).1 (srtL f S E V i) (srtL f S E V i).length
    rw [srtL_len] at hp
    rw [lab_ins, srtL_len]
    split
    · exact srt_ok h (by omega) k (by omega)
    · split
      · unfold rawL
        rw [seg_len, seg_len]
        omega
      · exact srt_ok h (by omega) (k - 1) (by omega)
theorem srt_sOk {f : Nat → Int32} {S E V : Nat → Nat} {len c : Nat} (h : lbOk len c S E V) (hc : c ≤ 6) : serOk (srtL f S E V c) := by
  refine ⟨by rw [srtL_len]; exact hc, fun k hk => srt_ok h (Nat.le_refl _) k ?_⟩
  rw [srtL_len] at hk
  exact hk
theorem d_R_read_32 : decode prog_8_method_2_code 32 = .ok (.iload_n 3, 1) := by decide +kernel
theorem d_R_read_33 : decode prog_8_method_2_code 33 = .ok (.iload_n 2, 1) := by decide +kernel
theorem d_R_read_34 : decode prog_8_method_2_code 34 = .ok (.if_icmp .ne 5, 3) := by decide +kernel
theorem d_R_read_39 : decode prog_8_method_2_code 39 = .ok (.aload_n 1, 1) := by decide +kernel
theorem d_R_read_40 : decode prog_8_method_2_code 40 = .ok (.iload_n 3, 1) := by decide +kernel
theorem d_R_read_41 : decode prog_8_method_2_code 41 = .ok (.baload, 1) := by decide +kernel
theorem d_R_read_42 : decode prog_8_method_2_code 42 = .ok (.bipush 44, 2) := by decide +kernel
theorem d_R_read_44 : decode prog_8_method_2_code 44 = .ok (.if_icmp .eq 13, 3) := by decide +kernel
theorem d_R_read_57 : decode prog_8_method_2_code 57 = .ok (.iinc 3 1, 3) := by decide +kernel
theorem d_R_read_60 : decode prog_8_method_2_code 60 = .ok (.iinc 4 1, 3) := by decide +kernel
theorem d_R_read_63 : decode prog_8_method_2_code 63 = .ok (.goto (-53), 3) := by decide +kernel
theorem d_R_read_47 : decode prog_8_method_2_code 47 = .ok (.aload_n 0, 1) := by decide +kernel
theorem d_R_read_48 : decode prog_8_method_2_code 48 = .ok (.bipush 7, 2) := by decide +kernel
theorem d_R_read_50 : decode prog_8_method_2_code 50 = .ok (.iload_n 3, 1) := by decide +kernel
theorem d_R_read_51 : decode prog_8_method_2_code 51 = .ok (.invokevirtual 29, 3) := by decide +kernel
theorem d_R_read_54 : decode prog_8_method_2_code 54 = .ok (.pop, 1) := by decide +kernel
theorem d_R_read_55 : decode prog_8_method_2_code 55 = .ok (.iconst 0, 1) := by decide +kernel
theorem d_R_read_56 : decode prog_8_method_2_code 56 = .ok (.ireturn, 1) := by decide +kernel
theorem d_R_read_37 : decode prog_8_method_2_code 37 = .ok (.iconst 1, 1) := by decide +kernel
theorem d_R_read_38 : decode prog_8_method_2_code 38 = .ok (.ireturn, 1) := by decide +kernel
set_option maxHeartbeats 4000000 in
set_option maxRecDepth 100000 in
theorem v_read (l : Launch) (D : va_G) (dA : Nat → ClassId) (sz : Nat) (h : Nat) (ad : Nat → Nat) (x : VS) (len : Nat) (h2 : len ≤ x.tpN) (h3 : x.tpN ≤ 131072) : Met l ⟨"SeriesVault$SeriesReader", "read", "([BI)Z"⟩ [Cond.code ⟨"SeriesVault$SeriesReader", "read", "([BI)Z"⟩ prog_8_method_2_code 5 (some FieldType.boolean)] { frames := 4, cells := 0, slots := 0, locals := 74 } (pC D dA [.ref (ad 18), .ref x.tpA, .int (nI len)] (VW dA h ad x) sz) (va_Qi (fun (r9 : Int32) (u9 : VS) => ((∃ (kf : Int32) (pf c : Nat) (S E V : Nat → Nat), rdC x.tape len 7 0 0 x.rS x.rE x.rV = .inl (kf, pf) ∧ r9 = 0 ∧ u9 = (x.lbS c S E V).rfS kf pf) ∨ (∃ (c : Nat) (S E V : Nat → Nat), rdC x.tape len 7 0 0 x.rS x.rE x.rV = .inr (c, S, E, V) ∧ lbOk len c S E V ∧ c ≤ 6 ∧ 0 < c ∧ r9 = 1 ∧ u9 = x.lbS c S E V))) (fun (u9 : VS) t9 => bW D (va_A (VW dA h ad x) sz) (VW dA h ad u9) t9) (va_A (VW dA h ad x) sz)) 0 0 (va_A (VW dA h ad x) sz) := by
  refine mkC (y := ⟨"SeriesVault$SeriesReader", "read", "([BI)Z"⟩) (cc := prog_8_method_2_code) (maxL := 5) (av := [.ref (ad 18), .ref x.tpA, .int (nI len)]) (ws := VW dA h ad x) (sz := sz) (Qc := fun A => va_Qi (fun (r9 : Int32) (u9 : VS) => ((∃ (kf : Int32) (pf c : Nat) (S E V : Nat → Nat), rdC x.tape len 7 0 0 x.rS x.rE x.rV = .inl (kf, pf) ∧ r9 = 0 ∧ u9 = (x.lbS c S E V).rfS kf pf) ∨ (∃ (c : Nat) (S E V : Nat → Nat), rdC x.tape len 7 0 0 x.rS x.rE x.rV = .inr (c, S, E, V) ∧ lbOk len c S E V ∧ c ≤ 6 ∧ 0 < c ∧ r9 = 1 ∧ u9 = x.lbS c S E V))) (fun (u9 : VS) t9 => bW D A (VW dA h ad u9) t9) A) (by decide) (Nat.le_of_ble_eq_true rfl) ?_
  intro A p e s m below meth c ls hsz hB
  obtain ⟨hx, hb, hr, hml, hown, hin, hlk, hE, hK, hP, hD, hS, hA, hN, hl⟩ := hB
  have hown : s.vm.findClass "SeriesVault$SeriesReader" = some m.cls := hown
  have hl : lv_has ls 5 [(0, .ref (ad 18)), (1, .ref x.tpA), (2, .int (nI len))] := hl
  obtain ⟨H, hH⟩ : ∃ z, z = s.heap := ⟨_, rfl⟩
  have hP : va_P D vwCl (VW dA h ad x) H := by rw [hH]; exact hP
  have hS : va_S A s.heap H [] := by rw [hH]; exact hS
  rw [← hH]
  refine lv_aload_n hx hb d_R_read_0 rfl (lv_at hl 0 rfl) ?_
  refine lv_iconst (v := 0) hx hb d_R_read_1 (by decide) ?_
  refine pF (v := .int (nI 0)) hx hb hown hE hK hP hD hS 32 rfl rfl layR tyR tokR nmR 3 (by decide) w603 rfl rfl rfl (Nat.le_of_ble_eq_true rfl) d_R_read_2 (fun H locs hP hD hS => ?_)
  have hP : va_P D vwCl (VW dA h ad (VS.s_rlab x 0)) H := hP
  have hD : va_D A (VW dA h ad (VS.s_rlab x 0)) := hD
  refine lv_iconst (v := 0) hx hb d_R_read_5 (by decide) ?_
  refine lv_istore_n hx hb d_R_read_6 rfl hl (by decide) rfl (fun ls hl => ?_)
  have hl : lv_has ls 5 [(3, .int 0), (0, .ref (ad 18)), (1, .ref x.tpA), (2, .int (nI len))] := hl
  refine lv_iconst (v := 0) hx hb d_R_read_7 (by decide) ?_
  refine lv_istore hx hb d_R_read_8 hl (by decide) rfl (fun ls hl => ?_)
  have hl : lv_has ls 5 [(4, .int 0), (3, .int 0), (0, .ref (ad 18)), (1, .ref x.tpA), (2, .int (nI len))] := hl
  have L10 : ∀ (k9 : Nat) (i : Nat) (q : Nat) (S : Nat → Nat) (E : Nat → Nat) (V : Nat → Nat) (i1 : i ≤ 6) (iq : q ≤ len) (il : lbOk len i S E V) (ir : rdC x.tape len (7 - i) q i S E V = rdC x.tape len 7 0 0 x.rS x.rE x.rV) (hk9 : 7 - i = k9), ∀ (H : Heap) (locs : List Loc) (ls : Array Slot) (hP : va_P D vwCl (VW dA h ad (VS.s_rlab (VS.s_rV (VS.s_rE (VS.s_rS x S) E) V) i)) H) (hD : va_D A (VW dA h ad (VS.s_rlab (VS.s_rV (VS.s_rE (VS.s_rS x S) E) V) i))) (hS : va_S A s.heap H locs) (hl : lv_has ls 5 [(4, .int (nI i)), (3, .int (nI q)), (0, .ref (ad 18)), (1, .ref x.tpA), (2, .int (nI len))]), W p l e ({ frames := 4, cells := 0, slots := 0, locals := 74 } : Room) s m ([.ref (ad 18), .ref x.tpA, .int (nI len)] : List Value).toArray below meth c H locs 0 0 (MQ below (va_Qi (fun (r9 : Int32) (u9 : VS) => ((∃ (kf : Int32) (pf c : Nat) (S E V : Nat → Nat), rdC x.tape len 7 0 0 x.rS x.rE x.rV = .inl (kf, pf) ∧ r9 = 0 ∧ u9 = (x.lbS c S E V).rfS kf pf) ∨ (∃ (c : Nat) (S E V : Nat → Nat), rdC x.tape len 7 0 0 x.rS x.rE x.rV = .inr (c, S, E, V) ∧ lbOk len c S E V ∧ c ≤ 6 ∧ 0 < c ∧ r9 = 1 ∧ u9 = x.lbS c S E V))) (fun (u9 : VS) t9 => bW D A (VW dA h ad u9) t9) A) ([.ref (ad 18), .ref x.tpA, .int (nI len)] : List Value).toArray s 0 0 A) (F0 m 10 ls []) := by
    intro k9
    induction k9 using Nat.strongRecOn with
    | ind k9 ih10 =>
      intro i q S E V i1 iq il ir hk9 H locs ls hP hD hS hl
      refine lv_iload hx hb d_R_read_10 (lv_at hl 0 rfl) ?_
      refine lv_bipush (v := 6) hx hb d_R_read_12 (by decide) ?_
      refine lv_icmp_gt hx hb d_R_read_14 (tgt := 66) rfl (fun g1 => ?_) (fun g1 => ?_)
      · have g1 := (nI_ltI (a := 6) (b := i) (by omega) (by omega)).mp g1; exfalso; omega
      have g1 := mt (nI_ltI (a := 6) (b := i) (by omega) (by omega)).mpr g1
      refine lv_aload_n hx hb d_R_read_17 rfl (lv_at hl 2 rfl) ?_
      refine lv_aload_n hx hb d_R_read_18 rfl (lv_at hl 3 rfl) ?_
      refine lv_iload_n hx hb d_R_read_19 rfl (lv_at hl 4 rfl) ?_
      refine lv_iload_n hx hb d_R_read_20 rfl (lv_at hl 1 rfl) ?_
      refine jkI (wr := []) (rnV (As := [.ref x.tpA, .int (nI len), .int (nI q)]) (rest := []) hx hb hml hown hE hK (hN _ _ hS) hP hD (v_readLabel l D dA H.size h ad (VS.s_rlab (VS.s_rV (VS.s_rE (VS.s_rS x S) E) V) i) len q iq (show len ≤ x.tpN from by omega) (show x.tpN ≤ 131072 from by omega) (show i ≤ 6 from by omega) il) (q0 := 32) rfl rfl w605 w604 w606 w607 w596 rfl rfl ⟨⟨by decide, by decide⟩, rfl⟩ ⟨(Nat.le_of_ble_eq_true rfl), (Nat.le_of_ble_eq_true rfl)⟩ rfl hl.1 rfl (Nat.le_of_ble_eq_true rfl) d_R_read_21 ⟨(Nat.le_of_ble_eq_true rfl), (Nat.le_of_ble_eq_true rfl)⟩) hP hD hS hA (fun r2 u3 H locs hp9 hP hD hS => ?_)
      obtain ⟨y4, h9u⟩ : ∃ z9, z9 = u3 := ⟨_, rfl⟩
      subst h9u
      have hP : va_P D vwCl (VW dA h ad y4) H := hP
      have hD : va_D A (VW dA h ad y4) := hD
      have f_r_5 := hp9
      rcases f_r_5 with ⟨kf, pf, hr9, e9, ey⟩ | ⟨n, b, hr9, e9, ey⟩
      · subst e9
        subst ey
        have hP : va_P D vwCl (VW dA h ad (VS.s_rplace (VS.s_rcode (VS.s_rlab (VS.s_rV (VS.s_rE (VS.s_rS x S) E) V) i) kf) (nI pf))) H := hP
        have hD : va_D A (VW dA h ad (VS.s_rplace (VS.s_rcode (VS.s_rlab (VS.s_rV (VS.s_rE (VS.s_rS x S) E) V) i) kf) (nI pf))) := hD
        refine lv_istore_n hx hb d_R_read_24 rfl hl (by decide) rfl (fun ls hl => ?_)
        have hl : lv_has ls 5 [(3, .int (-1)), (4, .int (nI i)), (0, .ref (ad 18)), (1, .ref x.tpA), (2, .int (nI len))] := hl
        refine lv_iload_n hx hb d_R_read_25 rfl (lv_at hl 0 rfl) ?_
        refine lv_iconst (v := (-1)) hx hb d_R_read_26 (by decide) ?_
        refine lv_icmp_ne hx hb d_R_read_27 (tgt := 32) rfl (fun h9 => absurd (by decide) h9) (fun _ => ?_)
        refine lv_iconst (v := 0) hx hb d_R_read_30 (by decide) ?_
        exact rfZ hx hb hr (bI_nar false) hlk hS (VS.s_rplace (VS.s_rcode (VS.s_rlab (VS.s_rV (VS.s_rE (VS.s_rS x S) E) V) i) kf) (nI pf)) (Or.inl ⟨kf, pf, i, S, E, V, by rw [← ir, show 7 - i = (6 - i) + 1 by omega, rd_x hr9], rfl, rfl⟩) hP hD (Nat.le_of_ble_eq_true rfl) (Nat.le_of_ble_eq_true rfl) d_R_read_31
      · subst e9
        subst ey
        have hP : va_P D vwCl (VW dA h ad (VS.s_rlab (VS.s_rV (VS.s_rE (VS.s_rS x (va_up S i q)) (va_up E i n)) (va_up V i b)) (i + 1))) H := hP
        have hD : va_D A (VW dA h ad (VS.s_rlab (VS.s_rV (VS.s_rE (VS.s_rS x (va_up S i q)) (va_up E i n)) (va_up V i b)) (i + 1))) := hD
        obtain ⟨c6, b1, b2, b3, b4, b5, b6, b7, b8, b9⟩ := rl_in iq hr9
        have c6 : ¬ i = 6 := c6
        refine lv_istore_n hx hb d_R_read_24 rfl hl (by decide) rfl (fun ls hl => ?_)
        have hl : lv_has ls 5 [(3, .int (nI b)), (4, .int (nI i)), (0, .ref (ad 18)), (1, .ref x.tpA), (2, .int (nI len))] := hl
        refine lv_iload_n hx hb d_R_read_25 rfl (lv_at hl 0 rfl) ?_
        refine lv_iconst (v := (-1)) hx hb d_R_read_26 (by decide) ?_
        refine lv_icmp_ne hx hb d_R_read_27 (tgt := 32) rfl (fun _ => ?_) (fun h9 => absurd h9 (nI_nm (by omega)))
        refine lv_iload_n hx hb d_R_read_32 rfl (lv_at hl 0 rfl) ?_
        refine lv_iload_n hx hb d_R_read_33 rfl (lv_at hl 4 rfl) ?_
        refine lv_icmp_ne hx hb d_R_read_34 (tgt := 39) rfl (fun g6 => ?_) (fun g6 => ?_)
        · have g6 := mt (nI_eq (a := b) (b := len) (by omega) (by omega)).mpr g6
          refine lv_aload_n hx hb d_R_read_39 rfl (lv_at hl 3 rfl) ?_
          refine lv_iload_n hx hb d_R_read_40 rfl (lv_at hl 0 rfl) ?_
          refine nbld (f := x.tape) (n := x.tpN) hx hb hK hP (1) 0 rfl rfl (b) (by omega) (by omega) d_R_read_41 ?_
          refine lv_bipush (v := 44) hx hb d_R_read_42 (by decide) ?_
          refine lv_icmp_eq hx hb d_R_read_44 (tgt := 57) rfl (fun g7 => ?_) (fun g7 => ?_)
          · have g7 := g7
            refine lv_iinc (k := 0) (v := nI (b + 1)) hx hb d_R_read_57 hl rfl (iincN (b) 1 1 (by decide)) (by decide) rfl (fun ls hl => ?_)
            have hl : lv_has ls 5 [(3, .int (nI (b + 1))), (4, .int (nI i)), (0, .ref (ad 18)), (1, .ref x.tpA), (2, .int (nI len))] := hl
            refine lv_iinc (k := 1) (v := nI (i + 1)) hx hb d_R_read_60 hl rfl (iincN (i) 1 1 (by decide)) (by decide) rfl (fun ls hl => ?_)
            have hl : lv_has ls 5 [(4, .int (nI (i + 1))), (3, .int (nI (b + 1))), (0, .ref (ad 18)), (1, .ref x.tpA), (2, .int (nI len))] := hl
            refine lv_goto hx hb d_R_read_63 (tgt := 10) rfl ?_
            exact ih10 _ (by omega) (i + 1) (b + 1) (va_up S i q) (va_up E i n) (va_up V i b) (by omega) (by omega) (lbOk_s il b1 b2 b3 b4 b5) (by rw [← ir, show 7 - i = (6 - i) + 1 by omega, rd_s hr9, if_neg g6, if_pos g7, show 7 - (i + 1) = 6 - i by omega]) rfl H _ ls hP hD hS (lv_sub hl [0, 1, 2, 3, 4] rfl)
          · have g7 := g7
            refine lv_aload_n hx hb d_R_read_47 rfl (lv_at hl 2 rfl) ?_
            refine lv_bipush (v := 7) hx hb d_R_read_48 (by decide) ?_
            refine lv_iload_n hx hb d_R_read_50 rfl (lv_at hl 0 rfl) ?_
            refine jkI (wr := []) (rnV (As := [.int 7, .int (nI b)]) (rest := []) hx hb hml hown hE hK (hN _ _ hS) hP hD (v_refuse l D dA H.size h ad (VS.s_rlab (VS.s_rV (VS.s_rE (VS.s_rS x (va_up S i q)) (va_up E i n)) (va_up V i b)) (i + 1)) 7 (nI b)) (q0 := 32) rfl rfl w600 w599 w601 w602 w596 rfl rfl ⟨⟨by decide, by decide⟩, rfl⟩ ⟨(Nat.le_of_ble_eq_true rfl), (Nat.le_of_ble_eq_true rfl)⟩ rfl hl.1 rfl (Nat.le_of_ble_eq_true rfl) d_R_read_51 ⟨(Nat.le_of_ble_eq_true rfl), (Nat.le_of_ble_eq_true rfl)⟩) hP hD hS hA (fun r8 u9 H locs hp9 hP hD hS => ?_)
            have hP : va_P D vwCl (VW dA h ad (VS.s_rplace (VS.s_rcode (VS.s_rlab (VS.s_rV (VS.s_rE (VS.s_rS x (va_up S i q)) (va_up E i n)) (va_up V i b)) (i + 1)) 7) (nI b))) H := hP
            have hD : va_D A (VW dA h ad (VS.s_rplace (VS.s_rcode (VS.s_rlab (VS.s_rV (VS.s_rE (VS.s_rS x (va_up S i q)) (va_up E i n)) (va_up V i b)) (i + 1)) 7) (nI b))) := hD
            replace hp9 : (-1) = r8 := Eq.symm hp9
            subst hp9
            refine lv_pop hx hb d_R_read_54 rfl ?_
            refine lv_iconst (v := 0) hx hb d_R_read_55 (by decide) ?_
            exact rfZ hx hb hr (bI_nar false) hlk hS (VS.s_rplace (VS.s_rcode (VS.s_rlab (VS.s_rV (VS.s_rE (VS.s_rS x (va_up S i q)) (va_up E i n)) (va_up V i b)) (i + 1)) 7) (nI b)) (Or.inl ⟨7, b, i + 1, _, _, _, by rw [← ir, show 7 - i = (6 - i) + 1 by omega, rd_s hr9, if_neg g6, if_neg g7], rfl, rfl⟩) hP hD (Nat.le_of_ble_eq_true rfl) (Nat.le_of_ble_eq_true rfl) d_R_read_56
        · have g6 := (nI_eq (a := b) (b := len) (by omega) (by omega)).mp g6
          refine lv_iconst (v := 1) hx hb d_R_read_37 (by decide) ?_
          exact rfZ hx hb hr (bI_nar true) hlk hS (VS.s_rlab (VS.s_rV (VS.s_rE (VS.s_rS x (va_up S i q)) (va_up E i n)) (va_up V i b)) (i + 1)) (Or.inr ⟨i + 1, _, _, _, by rw [← ir, show 7 - i = (6 - i) + 1 by omega, rd_s hr9, if_pos g6], lbOk_s il b1 b2 b3 b4 b5, by omega, by omega, rfl, rfl⟩) hP hD (Nat.le_of_ble_eq_true rfl) (Nat.le_of_ble_eq_true rfl) d_R_read_38
  exact L10 _ 0 0 x.rS x.rE x.rV (by omega) (Nat.zero_le _) (fun k hk => absurd hk (Nat.not_lt_zero k)) rfl rfl H _ ls hP hD hS (lv_sub hl [0, 1, 2, 3, 4] rfl)
theorem d_S_init_0 : decode prog_7_method_1_code 0 = .ok (.aload_n 0, 1) := by decide +kernel
theorem d_S_init_1 : decode prog_7_method_1_code 1 = .ok (.invokespecial 3, 3) := by decide +kernel
theorem d_S_init_4 : decode prog_7_method_1_code 4 = .ok (.aload_n 0, 1) := by decide +kernel
theorem d_S_init_5 : decode prog_7_method_1_code 5 = .ok (.aload_n 1, 1) := by decide +kernel
theorem d_S_init_6 : decode prog_7_method_1_code 6 = .ok (.putfield 9, 3) := by decide +kernel
theorem d_S_init_9 : decode prog_7_method_1_code 9 = .ok (.aload_n 0, 1) := by decide +kernel
theorem d_S_init_10 : decode prog_7_method_1_code 10 = .ok (.aload_n 2, 1) := by decide +kernel
theorem d_S_init_11 : decode prog_7_method_1_code 11 = .ok (.putfield 15, 3) := by decide +kernel
theorem d_S_init_14 : decode prog_7_method_1_code 14 = .ok (.aload_n 1, 1) := by decide +kernel
theorem d_S_init_15 : decode prog_7_method_1_code 15 = .ok (.aload_n 2, 1) := by decide +kernel
theorem d_S_init_16 : decode prog_7_method_1_code 16 = .ok (.invokestatic 18, 3) := by decide +kernel
theorem d_S_init_19 : decode prog_7_method_1_code 19 = .ok (.astore_n 3, 1) := by decide +kernel
theorem d_S_init_20 : decode prog_7_method_1_code 20 = .ok (.aload_n 0, 1) := by decide +kernel
theorem d_S_init_21 : decode prog_7_method_1_code 21 = .ok (.new 22, 3) := by decide +kernel
theorem dfW : ∀ j, j < 1 → defaultValue (tyW j) = vp_V [.null] j := by decide +kernel
theorem d_S_init_24 : decode prog_7_method_1_code 24 = .ok (.dup, 1) := by decide +kernel
theorem d_S_init_25 : decode prog_7_method_1_code 25 = .ok (.aload_n 3, 1) := by decide +kernel
theorem d_S_init_26 : decode prog_7_method_1_code 26 = .ok (.iconst 0, 1) := by decide +kernel
theorem d_S_init_27 : decode prog_7_method_1_code 27 = .ok (.aload_n 3, 1) := by decide +kernel
theorem d_S_init_28 : decode prog_7_method_1_code 28 = .ok (.arraylength, 1) := by decide +kernel
theorem d_S_init_29 : decode prog_7_method_1_code 29 = .ok (.invokespecial 24, 3) := by decide +kernel
theorem d_S_init_32 : decode prog_7_method_1_code 32 = .ok (.putfield 27, 3) := by decide +kernel
theorem d_S_init_35 : decode prog_7_method_1_code 35 = .ok (.aload_n 0, 1) := by decide +kernel
theorem d_S_init_36 : decode prog_7_method_1_code 36 = .ok (.new 22, 3) := by decide +kernel
theorem d_S_init_39 : decode prog_7_method_1_code 39 = .ok (.dup, 1) := by decide +kernel
theorem d_S_init_40 : decode prog_7_method_1_code 40 = .ok (.aload_n 3, 1) := by decide +kernel
theorem d_S_init_41 : decode prog_7_method_1_code 41 = .ok (.iconst 0, 1) := by decide +kernel
theorem d_S_init_42 : decode prog_7_method_1_code 42 = .ok (.iconst 0, 1) := by decide +kernel
theorem d_S_init_43 : decode prog_7_method_1_code 43 = .ok (.invokespecial 24, 3) := by decide +kernel
theorem d_S_init_46 : decode prog_7_method_1_code 46 = .ok (.putfield 31, 3) := by decide +kernel
theorem d_S_init_49 : decode prog_7_method_1_code 49 = .ok (.return_, 1) := by decide +kernel
theorem w1301 : Cond.methodLink "SeriesVault$Series" 3 ⟨"java/lang/Object", "<init>", "()V"⟩ ∈ aW := aw_of (tb_4 (List.mem_of_getElem? (i := 234) rfl)) rfl
theorem w1302 : Cond.methodLink "SeriesVault$Series" 18 ⟨"SeriesVault$Series", "joined", "([LSeriesVault$Word;[LSeriesVault$Word;)[B"⟩ ∈ aW := aw_of (tb_4 (List.mem_of_getElem? (i := 235) rfl)) rfl
theorem w1303 : Cond.code ⟨"SeriesVault$Series", "joined", "([LSeriesVault$Word;[LSeriesVault$Word;)[B"⟩ prog_7_method_2_code 6 (some (FieldType.array FieldType.byte)) ∈ aW := aw_of (tb_4 (List.mem_of_getElem? (i := 237) rfl)) rfl
theorem w1304 : Cond.static ⟨"SeriesVault$Series", "joined", "([LSeriesVault$Word;[LSeriesVault$Word;)[B"⟩ ∈ aW := aw_of (tb_4 (List.mem_of_getElem? (i := 236) rfl)) rfl
theorem w1305 : Cond.classLink "SeriesVault$Series" 22 "SeriesVault$Word" ∈ aW := aw_of (tb_5 (List.mem_of_getElem? (i := 2) rfl)) rfl
theorem w856 : Cond.instantiable "SeriesVault$Word" 1 ∈ aW := aw_of (tb_3 (List.mem_of_getElem? (i := 227) rfl)) rfl
theorem w1307 : Cond.methodLink "SeriesVault$Series" 24 ⟨"SeriesVault$Word", "<init>", "([BII)V"⟩ ∈ aW := aw_of (tb_5 (List.mem_of_getElem? (i := 3) rfl)) rfl
theorem w1308 : Cond.code ⟨"SeriesVault$Word", "<init>", "([BII)V"⟩ prog_12_method_1_code 4 none ∈ aW := aw_of (tb_3 (List.mem_of_getElem? (i := 230) rfl)) rfl
theorem w1309 : Cond.instanceMethod ⟨"SeriesVault$Word", "<init>", "([BII)V"⟩ ∈ aW := aw_of (tb_3 (List.mem_of_getElem? (i := 229) rfl)) rfl
set_option maxHeartbeats 4000000 in
set_option maxRecDepth 100000 in
theorem v_Sinit (l : Launch) (D : va_G) (dA : Nat → ClassId) (sz : Nat) (ws : va_W) (sp : Nat) (na : Nat) (va : Nat) (S : List LB) (fn : Nat → Option Nat) (fv : Nat → Option Nat) (n2 : (na, .inl (dA 6, S.length, .inr (.inr (.inr (.inr fn))))) ∈ ws) (n3 : (va, .inl (dA 6, S.length, .inr (.inr (.inr (.inr fv))))) ∈ ws) (hel : ∀ i, i < S.length → ∃ p q : Nat, fn i = some p ∧ isWo dA ws p (lab S i).1 ∧ fv i = some q ∧ isWo dA ws q (lab S i).2) (hso : serOk S) : Met l ⟨"SeriesVault$Series", "<init>", "([LSeriesVault$Word;[LSeriesVault$Word;)V"⟩ [Cond.code ⟨"SeriesVault$Series", "<init>", "([LSeriesVault$Word;[LSeriesVault$Word;)V"⟩ prog_7_method_1_code 4 none] { frames := 5, cells := 5, slots := 2 * (joinT S).length + 2, locals := 109 } (pC D dA [.ref sp, .ref na, .ref va] ([(sp, .inr (11, [.null, .null, .null, .null]))] ++ (ws)) sz) (va_Qv (fun (u9 : Nat × Nat × Nat × Nat × (Nat → Int32) × (Nat → Int32)) => byteF u9.2.2.2.2.1 ∧ preF u9.2.2.2.2.1 (joinT S) ∧ byteF u9.2.2.2.2.2) (fun (u9 : Nat × Nat × Nat × Nat × (Nat → Int32) × (Nat → Int32)) t9 => bW D (va_A ([(sp, .inr (11, [.null, .null, .null, .null]))] ++ (ws)) sz) ([(u9.2.1, .inr (10, [.ref u9.2.2.1]))] ++ ([(u9.2.2.1, .inl (dA 0, (joinT S).length, .inl u9.2.2.2.2.1))] ++ ([(u9.1, .inr (10, [.ref u9.2.2.2.1]))] ++ ([(u9.2.2.2.1, .inl (dA 0, 0, .inl u9.2.2.2.2.2))] ++ ([(sp, .inr (11, [.ref na, .ref va, .ref u9.1, .ref u9.2.1]))] ++ (ws)))))) t9) (va_A ([(sp, .inr (11, [.null, .null, .null, .null]))] ++ (ws)) sz)) 5 (2 * (joinT S).length + 2) (va_A ([(sp, .inr (11, [.null, .null, .null, .null]))] ++ (ws)) sz) := by
  refine mkC (y := ⟨"SeriesVault$Series", "<init>", "([LSeriesVault$Word;[LSeriesVault$Word;)V"⟩) (cc := prog_7_method_1_code) (maxL := 4) (av := [.ref sp, .ref na, .ref va]) (ws := [(sp, .inr (11, [.null, .null, .null, .null]))] ++ (ws)) (sz := sz) (Qc := fun A => va_Qv (fun (u9 : Nat × Nat × Nat × Nat × (Nat → Int32) × (Nat → Int32)) => byteF u9.2.2.2.2.1 ∧ preF u9.2.2.2.2.1 (joinT S) ∧ byteF u9.2.2.2.2.2) (fun (u9 : Nat × Nat × Nat × Nat × (Nat → Int32) × (Nat → Int32)) t9 => bW D A ([(u9.2.1, .inr (10, [.ref u9.2.2.1]))] ++ ([(u9.2.2.1, .inl (dA 0, (joinT S).length, .inl u9.2.2.2.2.1))] ++ ([(u9.1, .inr (10, [.ref u9.2.2.2.1]))] ++ ([(u9.2.2.2.1, .inl (dA 0, 0, .inl u9.2.2.2.2.2))] ++ ([(sp, .inr (11, [.ref na, .ref va, .ref u9.1, .ref u9.2.1]))] ++ (ws)))))) t9) A) (by decide) (Nat.le_of_ble_eq_true rfl) ?_
  intro A p e s m below meth c ls hsz hB
  obtain ⟨hx, hb, hr, hml, hown, hin, hlk, hE, hK, hP, hD, hS, hA, hN, hl⟩ := hB
  have hown : s.vm.findClass "SeriesVault$Series" = some m.cls := hown
  have hl : lv_has ls 4 [(0, .ref sp), (1, .ref na), (2, .ref va)] := hl
  obtain ⟨H, hH⟩ : ∃ z, z = s.heap := ⟨_, rfl⟩
  have hP : va_P D vwCl ([(sp, .inr (11, [.null, .null, .null, .null]))] ++ (ws)) H := by rw [hH]; exact hP
  have hS : va_S A s.heap H [] := by rw [hH]; exact hS
  rw [← hH]
  have jl := jt_le hso
  refine lv_aload_n hx hb d_S_init_0 rfl (lv_at hl 0 rfl) ?_
  refine oI hx hb hown hE w1301 w182 w183 (hl.1.trans hml.symm) d_S_init_1 (Nat.le_of_ble_eq_true rfl) (Nat.le_of_ble_eq_true rfl) ?_
  refine lv_aload_n hx hb d_S_init_4 rfl (lv_at hl 0 rfl) ?_
  refine lv_aload_n hx hb d_S_init_5 rfl (lv_at hl 1 rfl) ?_
  refine pFF (v := .ref na) hx hb hown hE hK hP hD hS 0 rfl rfl layS tyS tokS nmS 0 (by decide) w1278 rfl hin rfl rfl rfl (Nat.le_of_ble_eq_true rfl) d_S_init_6 (fun H locs hP hD hS => ?_)
  have hP : va_P D vwCl ([(sp, .inr (11, [.ref na, .null, .null, .null]))] ++ (ws)) H := hP
  have hD : va_D A ([(sp, .inr (11, [.ref na, .null, .null, .null]))] ++ (ws)) := hD
  refine lv_aload_n hx hb d_S_init_9 rfl (lv_at hl 0 rfl) ?_
  refine lv_aload_n hx hb d_S_init_10 rfl (lv_at hl 2 rfl) ?_
  refine pFF (v := .ref va) hx hb hown hE hK hP hD hS 0 rfl rfl layS tyS tokS nmS 1 (by decide) w1285 rfl hin rfl rfl rfl (Nat.le_of_ble_eq_true rfl) d_S_init_11 (fun H locs hP hD hS => ?_)
  have hP : va_P D vwCl ([(sp, .inr (11, [.ref na, .ref va, .null, .null]))] ++ (ws)) H := hP
  have hD : va_D A ([(sp, .inr (11, [.ref na, .ref va, .null, .null]))] ++ (ws)) := hD
  refine lv_aload_n hx hb d_S_init_14 rfl (lv_at hl 1 rfl) ?_
  refine lv_aload_n hx hb d_S_init_15 rfl (lv_at hl 2 rfl) ?_
  refine jkR (wr := []) (rnS (As := [.ref na, .ref va]) (rest := []) hx hb hml hown hE hK (hN _ _ hS) hP hD (v_joined l D dA H.size ([(sp, .inr (11, [.ref na, .ref va, .null, .null]))] ++ (ws)) na va S fn fv (List.mem_append_right _ n2) (List.mem_append_right _ n3) (fun k hk => by obtain ⟨p9, q9, a1, a2, a3, a4⟩ := hel k hk; exact ⟨p9, q9, a1, isWo_m (fun _ hm => (List.mem_append_right _ hm)) a2, a3, isWo_m (fun _ hm => (List.mem_append_right _ hm)) a4⟩) hso) w1303 w1302 w1304 w1288 rfl rfl ⟨⟨by decide, by decide⟩, rfl⟩ ⟨(Nat.le_of_ble_eq_true rfl), (Nat.le_of_ble_eq_true rfl)⟩ rfl hl.1 rfl (Nat.le_of_ble_eq_true rfl) d_S_init_16 ⟨(show 0 + 1 ≤ 5 by omega), (show 0 + ((joinT S).length) ≤ 2 * (joinT S).length + 2 by omega)⟩) hP hD hS hA (fun u1 rw0 H locs hp9 hP hD hS => ?_)
  obtain ⟨g0, h9u⟩ : ∃ z9, z9 = u1 := ⟨_, rfl⟩
  subst h9u
  have hP : va_P D vwCl ([(rw0, .inl (dA 0, (joinT S).length, .inl g0))] ++ ([(sp, .inr (11, [.ref na, .ref va, .null, .null]))] ++ (ws))) H := hP
  have hD : va_D A ([(rw0, .inl (dA 0, (joinT S).length, .inl g0))] ++ ([(sp, .inr (11, [.ref na, .ref va, .null, .null]))] ++ (ws))) := hD
  obtain ⟨f_y_2, f_c_3⟩ := hp9
  refine lv_astore_n hx hb d_S_init_19 rfl hl (by decide) rfl (fun ls hl => ?_)
  have hl : lv_has ls 4 [(3, .ref rw0), (0, .ref sp), (1, .ref na), (2, .ref va)] := hl
  refine lv_aload_n hx hb d_S_init_20 rfl (lv_at hl 1 rfl) ?_
  refine nOf hx hb hown hE hK hP hD hS hA (ci := 10) rfl layW tyW tokW w1305 w856 w1281 (fs := [.null]) dfW (show (0 + 1) + 1 ≤ 5 by omega) (show (0 + ((joinT S).length)) + 1 ≤ 2 * (joinT S).length + 2 by omega) d_S_init_21 (fun tx H hP hD hS => ?_)
  have hP : va_P D vwCl ([(tx, .inr (10, [.null]))] ++ ([(rw0, .inl (dA 0, (joinT S).length, .inl g0))] ++ ([(sp, .inr (11, [.ref na, .ref va, .null, .null]))] ++ (ws)))) H := hP
  have hD : va_D A ([(tx, .inr (10, [.null]))] ++ ([(rw0, .inl (dA 0, (joinT S).length, .inl g0))] ++ ([(sp, .inr (11, [.ref na, .ref va, .null, .null]))] ++ (ws)))) := hD
  refine lv_dup hx hb d_S_init_24 rfl ?_
  refine lv_aload_n hx hb d_S_init_25 rfl (lv_at hl 0 rfl) ?_
  refine lv_iconst (v := 0) hx hb d_S_init_26 (by decide) ?_
  refine lv_aload_n hx hb d_S_init_27 rfl (lv_at hl 0 rfl) ?_
  refine va_alen (v := nI ((joinT S).length)) hx hb hK hP (1) 0 rfl rfl rfl d_S_init_28 ?_
  refine jkV (wr := []) (rnI (As := [.ref rw0, .int 0, .int (nI ((joinT S).length))]) (rest := [.ref tx, .ref sp]) hx hb hml hown hE hK (hN _ _ hS) hP hD (v_Winit l D dA H.size ([(rw0, .inl (dA 0, (joinT S).length, .inl g0))] ++ ([(sp, .inr (11, [.ref na, .ref va, .null, .null]))] ++ (ws))) tx rw0 ((joinT S).length) g0 0 ((joinT S).length) (List.mem_of_getElem? (i := 0) rfl) f_y_2 (show 0 ≤ ((joinT S).length) from by omega) (show ((joinT S).length) ≤ ((joinT S).length) from by omega) (show ((joinT S).length) ≤ 131072 from by omega)) w1308 w1307 w1309 w1281 rfl rfl rfl ⟨⟨by decide, by decide⟩, rfl⟩ ⟨(Nat.le_of_ble_eq_true rfl), (Nat.le_of_ble_eq_true rfl)⟩ rfl hl.1 rfl (Nat.le_of_ble_eq_true rfl) d_S_init_29 ⟨(show 0 + 1 + 1 + 1 ≤ 5 by omega), (show 0 + ((joinT S).length) + 1 + (((joinT S).length) - 0) ≤ 2 * (joinT S).length + 2 by omega)⟩) hP hD hS hA (fun u5 H locs hp9 hP hD hS => ?_)
  obtain ⟨bt, gt⟩ := u5
  have hP : va_P D vwCl ([(bt, .inl (dA 0, ((joinT S).length) - 0, .inl gt))] ++ ([(tx, .inr (10, [.ref bt]))] ++ ([(rw0, .inl (dA 0, (joinT S).length, .inl g0))] ++ ([(sp, .inr (11, [.ref na, .ref va, .null, .null]))] ++ (ws))))) H := hP
  have hD : va_D A ([(bt, .inl (dA 0, ((joinT S).length) - 0, .inl gt))] ++ ([(tx, .inr (10, [.ref bt]))] ++ ([(rw0, .inl (dA 0, (joinT S).length, .inl g0))] ++ ([(sp, .inr (11, [.ref na, .ref va, .null, .null]))] ++ (ws))))) := hD
  obtain ⟨f_y_6, f_hg_7⟩ := hp9
  refine pFF (v := .ref tx) hx hb hown hE hK hP hD hS 3 rfl rfl layS tyS tokS nmS 3 (by decide) w1276 rfl hin rfl rfl rfl (Nat.le_of_ble_eq_true rfl) d_S_init_32 (fun H locs hP hD hS => ?_)
  have hP : va_P D vwCl ([(bt, .inl (dA 0, ((joinT S).length) - 0, .inl gt))] ++ ([(tx, .inr (10, [.ref bt]))] ++ ([(rw0, .inl (dA 0, (joinT S).length, .inl g0))] ++ ([(sp, .inr (11, [.ref na, .ref va, .null, .ref tx]))] ++ (ws))))) H := hP
  have hD : va_D A ([(bt, .inl (dA 0, ((joinT S).length) - 0, .inl gt))] ++ ([(tx, .inr (10, [.ref bt]))] ++ ([(rw0, .inl (dA 0, (joinT S).length, .inl g0))] ++ ([(sp, .inr (11, [.ref na, .ref va, .null, .ref tx]))] ++ (ws))))) := hD
  refine lv_aload_n hx hb d_S_init_35 rfl (lv_at hl 1 rfl) ?_
  refine nOf hx hb hown hE hK hP hD hS hA (ci := 10) rfl layW tyW tokW w1305 w856 w1281 (fs := [.null]) dfW (show (0 + 1 + 1 + 1) + 1 ≤ 5 by omega) (show (0 + ((joinT S).length) + 1 + (((joinT S).length) - 0)) + 1 ≤ 2 * (joinT S).length + 2 by omega) d_S_init_36 (fun no H hP hD hS => ?_)
  have hP : va_P D vwCl ([(no, .inr (10, [.null]))] ++ ([(bt, .inl (dA 0, ((joinT S).length) - 0, .inl gt))] ++ ([(tx, .inr (10, [.ref bt]))] ++ ([(rw0, .inl (dA 0, (joinT S).length, .inl g0))] ++ ([(sp, .inr (11, [.ref na, .ref va, .null, .ref tx]))] ++ (ws)))))) H := hP
  have hD : va_D A ([(no, .inr (10, [.null]))] ++ ([(bt, .inl (dA 0, ((joinT S).length) - 0, .inl gt))] ++ ([(tx, .inr (10, [.ref bt]))] ++ ([(rw0, .inl (dA 0, (joinT S).length, .inl g0))] ++ ([(sp, .inr (11, [.ref na, .ref va, .null, .ref tx]))] ++ (ws)))))) := hD
  refine lv_dup hx hb d_S_init_39 rfl ?_
  refine lv_aload_n hx hb d_S_init_40 rfl (lv_at hl 0 rfl) ?_
  refine lv_iconst (v := 0) hx hb d_S_init_41 (by decide) ?_
  refine lv_iconst (v := 0) hx hb d_S_init_42 (by decide) ?_
  refine jkV (wr := []) (rnI (As := [.ref rw0, .int 0, .int 0]) (rest := [.ref no, .ref sp]) hx hb hml hown hE hK (hN _ _ hS) hP hD (v_Winit l D dA H.size ([(bt, .inl (dA 0, ((joinT S).length) - 0, .inl gt))] ++ ([(tx, .inr (10, [.ref bt]))] ++ ([(rw0, .inl (dA 0, (joinT S).length, .inl g0))] ++ ([(sp, .inr (11, [.ref na, .ref va, .null, .ref tx]))] ++ (ws))))) no rw0 ((joinT S).length) g0 0 0 (List.mem_of_getElem? (i := 2) rfl) f_y_2 (show 0 ≤ 0 from by omega) (show 0 ≤ ((joinT S).length) from by omega) (show ((joinT S).length) ≤ 131072 from by omega)) w1308 w1307 w1309 w1281 rfl rfl rfl ⟨⟨by decide, by decide⟩, rfl⟩ ⟨(Nat.le_of_ble_eq_true rfl), (Nat.le_of_ble_eq_true rfl)⟩ rfl hl.1 rfl (Nat.le_of_ble_eq_true rfl) d_S_init_43 ⟨(show 0 + 1 + 1 + 1 + 1 + 1 ≤ 5 by omega), (show 0 + ((joinT S).length) + 1 + (((joinT S).length) - 0) + 1 + (0 - 0) ≤ 2 * (joinT S).length + 2 by omega)⟩) hP hD hS hA (fun u9 H locs hp9 hP hD hS => ?_)
  obtain ⟨bn, gn⟩ := u9
  have hP : va_P D vwCl ([(bn, .inl (dA 0, 0 - 0, .inl gn))] ++ ([(no, .inr (10, [.ref bn]))] ++ ([(bt, .inl (dA 0, ((joinT S).length) - 0, .inl gt))] ++ ([(tx, .inr (10, [.ref bt]))] ++ ([(rw0, .inl (dA 0, (joinT S).length, .inl g0))] ++ ([(sp, .inr (11, [.ref na, .ref va, .null, .ref tx]))] ++ (ws))))))) H := hP
  have hD : va_D A ([(bn, .inl (dA 0, 0 - 0, .inl gn))] ++ ([(no, .inr (10, [.ref bn]))] ++ ([(bt, .inl (dA 0, ((joinT S).length) - 0, .inl gt))] ++ ([(tx, .inr (10, [.ref bt]))] ++ ([(rw0, .inl (dA 0, (joinT S).length, .inl g0))] ++ ([(sp, .inr (11, [.ref na, .ref va, .null, .ref tx]))] ++ (ws))))))) := hD
  obtain ⟨f_y_10, f_hg_11⟩ := hp9
  refine pFF (v := .ref no) hx hb hown hE hK hP hD hS 5 rfl rfl layS tyS tokS nmS 2 (by decide) w1279 rfl hin rfl rfl rfl (Nat.le_of_ble_eq_true rfl) d_S_init_46 (fun H locs hP hD hS => ?_)
  have hP : va_P D vwCl ([(bn, .inl (dA 0, 0 - 0, .inl gn))] ++ ([(no, .inr (10, [.ref bn]))] ++ ([(bt, .inl (dA 0, ((joinT S).length) - 0, .inl gt))] ++ ([(tx, .inr (10, [.ref bt]))] ++ ([(rw0, .inl (dA 0, (joinT S).length, .inl g0))] ++ ([(sp, .inr (11, [.ref na, .ref va, .ref no, .ref tx]))] ++ (ws))))))) H := hP
  have hD : va_D A ([(bn, .inl (dA 0, 0 - 0, .inl gn))] ++ ([(no, .inr (10, [.ref bn]))] ++ ([(bt, .inl (dA 0, ((joinT S).length) - 0, .inl gt))] ++ ([(tx, .inr (10, [.ref bt]))] ++ ([(rw0, .inl (dA 0, (joinT S).length, .inl g0))] ++ ([(sp, .inr (11, [.ref na, .ref va, .ref no, .ref tx]))] ++ (ws))))))) := hD
  have hP := sbP (show List.Sublist (α := Nat × va_E) ([(bn, .inl (dA 0, 0 - 0, .inl gn))] ++ ([(no, .inr (10, [.ref bn]))] ++ ([(bt, .inl (dA 0, ((joinT S).length) - 0, .inl gt))] ++ ([(tx, .inr (10, [.ref bt]))] ++ ([(sp, .inr (11, [.ref na, .ref va, .ref no, .ref tx]))] ++ (ws)))))) ([(bn, .inl (dA 0, 0 - 0, .inl gn))] ++ ([(no, .inr (10, [.ref bn]))] ++ ([(bt, .inl (dA 0, ((joinT S).length) - 0, .inl gt))] ++ ([(tx, .inr (10, [.ref bt]))] ++ ([(rw0, .inl (dA 0, (joinT S).length, .inl g0))] ++ ([(sp, .inr (11, [.ref na, .ref va, .ref no, .ref tx]))] ++ (ws))))))) from List.Sublist.append (List.Sublist.refl _) (List.Sublist.append (List.Sublist.refl _) (List.Sublist.append (List.Sublist.refl _) (List.Sublist.append (List.Sublist.refl _) (List.sublist_append_of_sublist_right (List.Sublist.append (List.Sublist.refl _) (List.Sublist.refl _))))))) hP
  have hD := sbD (show List.Sublist (α := Nat × va_E) ([(bn, .inl (dA 0, 0 - 0, .inl gn))] ++ ([(no, .inr (10, [.ref bn]))] ++ ([(bt, .inl (dA 0, ((joinT S).length) - 0, .inl gt))] ++ ([(tx, .inr (10, [.ref bt]))] ++ ([(sp, .inr (11, [.ref na, .ref va, .ref no, .ref tx]))] ++ (ws)))))) ([(bn, .inl (dA 0, 0 - 0, .inl gn))] ++ ([(no, .inr (10, [.ref bn]))] ++ ([(bt, .inl (dA 0, ((joinT S).length) - 0, .inl gt))] ++ ([(tx, .inr (10, [.ref bt]))] ++ ([(rw0, .inl (dA 0, (joinT S).length, .inl g0))] ++ ([(sp, .inr (11, [.ref na, .ref va, .ref no, .ref tx]))] ++ (ws))))))) from List.Sublist.append (List.Sublist.refl _) (List.Sublist.append (List.Sublist.refl _) (List.Sublist.append (List.Sublist.refl _) (List.Sublist.append (List.Sublist.refl _) (List.sublist_append_of_sublist_right (List.Sublist.append (List.Sublist.refl _) (List.Sublist.refl _))))))) hD
  have hP := pmP (show List.Perm (α := Nat × va_E) ([(bn, .inl (dA 0, 0 - 0, .inl gn))] ++ ([(no, .inr (10, [.ref bn]))] ++ ([(bt, .inl (dA 0, ((joinT S).length) - 0, .inl gt))] ++ ([(tx, .inr (10, [.ref bt]))] ++ ([(sp, .inr (11, [.ref na, .ref va, .ref no, .ref tx]))] ++ (ws)))))) ([(tx, .inr (10, [.ref bt]))] ++ ([(bn, .inl (dA 0, 0 - 0, .inl gn))] ++ ([(no, .inr (10, [.ref bn]))] ++ ([(bt, .inl (dA 0, ((joinT S).length) - 0, .inl gt))] ++ ([(sp, .inr (11, [.ref na, .ref va, .ref no, .ref tx]))] ++ (ws)))))) from (List.Perm.append_left ([(bn, .inl (dA 0, 0 - 0, .inl gn))]) ((List.Perm.append_left ([(no, .inr (10, [.ref bn]))]) (List.perm_append_comm_assoc ([(bt, .inl (dA 0, ((joinT S).length) - 0, .inl gt))]) ([(tx, .inr (10, [.ref bt]))]) ([(sp, .inr (11, [.ref na, .ref va, .ref no, .ref tx]))] ++ (ws)))).trans (List.perm_append_comm_assoc ([(no, .inr (10, [.ref bn]))]) ([(tx, .inr (10, [.ref bt]))]) ([(bt, .inl (dA 0, ((joinT S).length) - 0, .inl gt))] ++ ([(sp, .inr (11, [.ref na, .ref va, .ref no, .ref tx]))] ++ (ws)))))).trans (List.perm_append_comm_assoc ([(bn, .inl (dA 0, 0 - 0, .inl gn))]) ([(tx, .inr (10, [.ref bt]))]) ([(no, .inr (10, [.ref bn]))] ++ ([(bt, .inl (dA 0, ((joinT S).length) - 0, .inl gt))] ++ ([(sp, .inr (11, [.ref na, .ref va, .ref no, .ref tx]))] ++ (ws)))))) hP
  have hD := pmD (show List.Perm (α := Nat × va_E) ([(bn, .inl (dA 0, 0 - 0, .inl gn))] ++ ([(no, .inr (10, [.ref bn]))] ++ ([(bt, .inl (dA 0, ((joinT S).length) - 0, .inl gt))] ++ ([(tx, .inr (10, [.ref bt]))] ++ ([(sp, .inr (11, [.ref na, .ref va, .ref no, .ref tx]))] ++ (ws)))))) ([(tx, .inr (10, [.ref bt]))] ++ ([(bn, .inl (dA 0, 0 - 0, .inl gn))] ++ ([(no, .inr (10, [.ref bn]))] ++ ([(bt, .inl (dA 0, ((joinT S).length) - 0, .inl gt))] ++ ([(sp, .inr (11, [.ref na, .ref va, .ref no, .ref tx]))] ++ (ws)))))) from (List.Perm.append_left ([(bn, .inl (dA 0, 0 - 0, .inl gn))]) ((List.Perm.append_left ([(no, .inr (10, [.ref bn]))]) (List.perm_append_comm_assoc ([(bt, .inl (dA 0, ((joinT S).length) - 0, .inl gt))]) ([(tx, .inr (10, [.ref bt]))]) ([(sp, .inr (11, [.ref na, .ref va, .ref no, .ref tx]))] ++ (ws)))).trans (List.perm_append_comm_assoc ([(no, .inr (10, [.ref bn]))]) ([(tx, .inr (10, [.ref bt]))]) ([(bt, .inl (dA 0, ((joinT S).length) - 0, .inl gt))] ++ ([(sp, .inr (11, [.ref na, .ref va, .ref no, .ref tx]))] ++ (ws)))))).trans (List.perm_append_comm_assoc ([(bn, .inl (dA 0, 0 - 0, .inl gn))]) ([(tx, .inr (10, [.ref bt]))]) ([(no, .inr (10, [.ref bn]))] ++ ([(bt, .inl (dA 0, ((joinT S).length) - 0, .inl gt))] ++ ([(sp, .inr (11, [.ref na, .ref va, .ref no, .ref tx]))] ++ (ws)))))) hD
  have hP := pmP (show List.Perm (α := Nat × va_E) ([(tx, .inr (10, [.ref bt]))] ++ ([(bn, .inl (dA 0, 0 - 0, .inl gn))] ++ ([(no, .inr (10, [.ref bn]))] ++ ([(bt, .inl (dA 0, ((joinT S).length) - 0, .inl gt))] ++ ([(sp, .inr (11, [.ref na, .ref va, .ref no, .ref tx]))] ++ (ws)))))) ([(tx, .inr (10, [.ref bt]))] ++ ([(bt, .inl (dA 0, ((joinT S).length) - 0, .inl gt))] ++ ([(bn, .inl (dA 0, 0 - 0, .inl gn))] ++ ([(no, .inr (10, [.ref bn]))] ++ ([(sp, .inr (11, [.ref na, .ref va, .ref no, .ref tx]))] ++ (ws)))))) from List.Perm.append_left ([(tx, .inr (10, [.ref bt]))]) ((List.Perm.append_left ([(bn, .inl (dA 0, 0 - 0, .inl gn))]) (List.perm_append_comm_assoc ([(no, .inr (10, [.ref bn]))]) ([(bt, .inl (dA 0, ((joinT S).length) - 0, .inl gt))]) ([(sp, .inr (11, [.ref na, .ref va, .ref no, .ref tx]))] ++ (ws)))).trans (List.perm_append_comm_assoc ([(bn, .inl (dA 0, 0 - 0, .inl gn))]) ([(bt, .inl (dA 0, ((joinT S).length) - 0, .inl gt))]) ([(no, .inr (10, [.ref bn]))] ++ ([(sp, .inr (11, [.ref na, .ref va, .ref no, .ref tx]))] ++ (ws)))))) hP
  have hD := pmD (show List.Perm (α := Nat × va_E) ([(tx, .inr (10, [.ref bt]))] ++ ([(bn, .inl (dA 0, 0 - 0, .inl gn))] ++ ([(no, .inr (10, [.ref bn]))] ++ ([(bt, .inl (dA 0, ((joinT S).length) - 0, .inl gt))] ++ ([(sp, .inr (11, [.ref na, .ref va, .ref no, .ref tx]))] ++ (ws)))))) ([(tx, .inr (10, [.ref bt]))] ++ ([(bt, .inl (dA 0, ((joinT S).length) - 0, .inl gt))] ++ ([(bn, .inl (dA 0, 0 - 0, .inl gn))] ++ ([(no, .inr (10, [.ref bn]))] ++ ([(sp, .inr (11, [.ref na, .ref va, .ref no, .ref tx]))] ++ (ws)))))) from List.Perm.append_left ([(tx, .inr (10, [.ref bt]))]) ((List.Perm.append_left ([(bn, .inl (dA 0, 0 - 0, .inl gn))]) (List.perm_append_comm_assoc ([(no, .inr (10, [.ref bn]))]) ([(bt, .inl (dA 0, ((joinT S).length) - 0, .inl gt))]) ([(sp, .inr (11, [.ref na, .ref va, .ref no, .ref tx]))] ++ (ws)))).trans (List.perm_append_comm_assoc ([(bn, .inl (dA 0, 0 - 0, .inl gn))]) ([(bt, .inl (dA 0, ((joinT S).length) - 0, .inl gt))]) ([(no, .inr (10, [.ref bn]))] ++ ([(sp, .inr (11, [.ref na, .ref va, .ref no, .ref tx]))] ++ (ws)))))) hD
  have hP := pmP (show List.Perm (α := Nat × va_E) ([(tx, .inr (10, [.ref bt]))] ++ ([(bt, .inl (dA 0, ((joinT S).length) - 0, .inl gt))] ++ ([(bn, .inl (dA 0, 0 - 0, .inl gn))] ++ ([(no, .inr (10, [.ref bn]))] ++ ([(sp, .inr (11, [.ref na, .ref va, .ref no, .ref tx]))] ++ (ws)))))) ([(tx, .inr (10, [.ref bt]))] ++ ([(bt, .inl (dA 0, ((joinT S).length) - 0, .inl gt))] ++ ([(no, .inr (10, [.ref bn]))] ++ ([(bn, .inl (dA 0, 0 - 0, .inl gn))] ++ ([(sp, .inr (11, [.ref na, .ref va, .ref no, .ref tx]))] ++ (ws)))))) from List.Perm.append_left ([(tx, .inr (10, [.ref bt]))]) (List.Perm.append_left ([(bt, .inl (dA 0, ((joinT S).length) - 0, .inl gt))]) (List.perm_append_comm_assoc ([(bn, .inl (dA 0, 0 - 0, .inl gn))]) ([(no, .inr (10, [.ref bn]))]) ([(sp, .inr (11, [.ref na, .ref va, .ref no, .ref tx]))] ++ (ws))))) hP
  have hD := pmD (show List.Perm (α := Nat × va_E) ([(tx, .inr (10, [.ref bt]))] ++ ([(bt, .inl (dA 0, ((joinT S).length) - 0, .inl gt))] ++ ([(bn, .inl (dA 0, 0 - 0, .inl gn))] ++ ([(no, .inr (10, [.ref bn]))] ++ ([(sp, .inr (11, [.ref na, .ref va, .ref no, .ref tx]))] ++ (ws)))))) ([(tx, .inr (10, [.ref bt]))] ++ ([(bt, .inl (dA 0, ((joinT S).length) - 0, .inl gt))] ++ ([(no, .inr (10, [.ref bn]))] ++ ([(bn, .inl (dA 0, 0 - 0, .inl gn))] ++ ([(sp, .inr (11, [.ref na, .ref va, .ref no, .ref tx]))] ++ (ws)))))) from List.Perm.append_left ([(tx, .inr (10, [.ref bt]))]) (List.Perm.append_left ([(bt, .inl (dA 0, ((joinT S).length) - 0, .inl gt))]) (List.perm_append_comm_assoc ([(bn, .inl (dA 0, 0 - 0, .inl gn))]) ([(no, .inr (10, [.ref bn]))]) ([(sp, .inr (11, [.ref na, .ref va, .ref no, .ref tx]))] ++ (ws))))) hD
  exact rfV hx hb hr hlk hS (⟨no, tx, bt, bn, gt, gn⟩) ⟨f_y_6, fun q hq => (f_hg_7 q hq).trans (by rw [Nat.zero_add]; exact f_c_3 q hq), f_y_10⟩ hP hD (show 0 + 1 + 1 + 1 + 1 + 1 ≤ 5 by omega) (show 0 + ((joinT S).length) + 1 + (((joinT S).length) - 0) + 1 + (0 - 0) ≤ 2 * (joinT S).length + 2 by omega) d_S_init_49
end
section
theorem insP_n {n : List Int32} {L : List LB} {k : Nat} (h : k = 0 ∨ ¬ 0 < cmpW (lab L (k - 1)).1 n) : insP n L k = k := by
  cases k with
  | zero => rfl
  | succ k =>
    show (if 0 < cmpW (lab L k).1 n then insP n L k else k + 1) = k + 1
    have h1 : ¬ 0 < cmpW (lab L k).1 n := h.resolve_left (by omega)
    rw [if_neg h1]
theorem insP_y {n : List Int32} {L : List LB} {k : Nat} (h0 : 0 < k) (h : 0 < cmpW (lab L (k - 1)).1 n) : insP n L k = insP n L (k - 1) := by
  obtain ⟨j, rfl⟩ : ∃ j, k = j + 1 := ⟨k - 1, by omega⟩
  show (if 0 < cmpW (lab L j).1 n then insP n L j else j + 1) = _
  have h1 : 0 < cmpW (lab L j).1 n := h
  rw [if_pos h1]
  rfl
theorem d_R_made_0 : decode prog_8_method_9_code 0 = .ok (.aload_n 0, 1) := by decide +kernel
theorem d_R_made_1 : decode prog_8_method_9_code 1 = .ok (.getfield 21, 3) := by decide +kernel
theorem d_R_made_4 : decode prog_8_method_9_code 4 = .ok (.anewarray 59, 3) := by decide +kernel
theorem d_R_made_7 : decode prog_8_method_9_code 7 = .ok (.astore_n 2, 1) := by decide +kernel
theorem d_R_made_8 : decode prog_8_method_9_code 8 = .ok (.aload_n 0, 1) := by decide +kernel
theorem d_R_made_9 : decode prog_8_method_9_code 9 = .ok (.getfield 21, 3) := by decide +kernel
theorem d_R_made_12 : decode prog_8_method_9_code 12 = .ok (.anewarray 59, 3) := by decide +kernel
theorem d_R_made_15 : decode prog_8_method_9_code 15 = .ok (.astore_n 3, 1) := by decide +kernel
theorem d_R_made_16 : decode prog_8_method_9_code 16 = .ok (.iconst 0, 1) := by decide +kernel
theorem d_R_made_17 : decode prog_8_method_9_code 17 = .ok (.istore 4, 2) := by decide +kernel
theorem d_R_made_19 : decode prog_8_method_9_code 19 = .ok (.iload 4, 2) := by decide +kernel
theorem d_R_made_21 : decode prog_8_method_9_code 21 = .ok (.aload_n 0, 1) := by decide +kernel
theorem d_R_made_22 : decode prog_8_method_9_code 22 = .ok (.getfield 21, 3) := by decide +kernel
theorem d_R_made_25 : decode prog_8_method_9_code 25 = .ok (.if_icmp .ge 116, 3) := by decide +kernel
theorem d_R_made_141 : decode prog_8_method_9_code 141 = .ok (.new 68, 3) := by decide +kernel
theorem dfS : ∀ j, j < 4 → defaultValue (tyS j) = vp_V [.null, .null, .null, .null] j := by decide +kernel
theorem d_R_made_144 : decode prog_8_method_9_code 144 = .ok (.dup, 1) := by decide +kernel
theorem d_R_made_145 : decode prog_8_method_9_code 145 = .ok (.aload_n 2, 1) := by decide +kernel
theorem d_R_made_146 : decode prog_8_method_9_code 146 = .ok (.aload_n 3, 1) := by decide +kernel
theorem d_R_made_147 : decode prog_8_method_9_code 147 = .ok (.invokespecial 70, 3) := by decide +kernel
theorem d_R_made_150 : decode prog_8_method_9_code 150 = .ok (.areturn, 1) := by decide +kernel
theorem d_R_made_28 : decode prog_8_method_9_code 28 = .ok (.new 59, 3) := by decide +kernel
theorem d_R_made_31 : decode prog_8_method_9_code 31 = .ok (.dup, 1) := by decide +kernel
theorem d_R_made_32 : decode prog_8_method_9_code 32 = .ok (.aload_n 1, 1) := by decide +kernel
theorem d_R_made_33 : decode prog_8_method_9_code 33 = .ok (.aload_n 0, 1) := by decide +kernel
theorem d_R_made_34 : decode prog_8_method_9_code 34 = .ok (.getfield 9, 3) := by decide +kernel
theorem d_R_made_37 : decode prog_8_method_9_code 37 = .ok (.iload 4, 2) := by decide +kernel
theorem d_R_made_39 : decode prog_8_method_9_code 39 = .ok (.iaload, 1) := by decide +kernel
theorem d_R_made_40 : decode prog_8_method_9_code 40 = .ok (.aload_n 0, 1) := by decide +kernel
theorem d_R_made_41 : decode prog_8_method_9_code 41 = .ok (.getfield 15, 3) := by decide +kernel
theorem d_R_made_44 : decode prog_8_method_9_code 44 = .ok (.iload 4, 2) := by decide +kernel
theorem d_R_made_46 : decode prog_8_method_9_code 46 = .ok (.iaload, 1) := by decide +kernel
theorem d_R_made_47 : decode prog_8_method_9_code 47 = .ok (.invokespecial 61, 3) := by decide +kernel
theorem d_R_made_50 : decode prog_8_method_9_code 50 = .ok (.astore 5, 2) := by decide +kernel
theorem d_R_made_52 : decode prog_8_method_9_code 52 = .ok (.iload 4, 2) := by decide +kernel
theorem d_R_made_54 : decode prog_8_method_9_code 54 = .ok (.istore 6, 2) := by decide +kernel
theorem d_R_made_56 : decode prog_8_method_9_code 56 = .ok (.iload 6, 2) := by decide +kernel
theorem d_R_made_58 : decode prog_8_method_9_code 58 = .ok (.ifCond .le 43, 3) := by decide +kernel
theorem d_R_made_101 : decode prog_8_method_9_code 101 = .ok (.aload_n 2, 1) := by decide +kernel
theorem d_R_made_102 : decode prog_8_method_9_code 102 = .ok (.iload 6, 2) := by decide +kernel
theorem d_R_made_104 : decode prog_8_method_9_code 104 = .ok (.aload 5, 2) := by decide +kernel
theorem d_R_made_106 : decode prog_8_method_9_code 106 = .ok (.aastore, 1) := by decide +kernel
theorem d_R_made_107 : decode prog_8_method_9_code 107 = .ok (.aload_n 3, 1) := by decide +kernel
theorem d_R_made_108 : decode prog_8_method_9_code 108 = .ok (.iload 6, 2) := by decide +kernel
theorem d_R_made_110 : decode prog_8_method_9_code 110 = .ok (.new 59, 3) := by decide +kernel
theorem d_R_made_113 : decode prog_8_method_9_code 113 = .ok (.dup, 1) := by decide +kernel
theorem d_R_made_114 : decode prog_8_method_9_code 114 = .ok (.aload_n 1, 1) := by decide +kernel
theorem d_R_made_115 : decode prog_8_method_9_code 115 = .ok (.aload_n 0, 1) := by decide +kernel
theorem d_R_made_116 : decode prog_8_method_9_code 116 = .ok (.getfield 15, 3) := by decide +kernel
theorem d_R_made_119 : decode prog_8_method_9_code 119 = .ok (.iload 4, 2) := by decide +kernel
theorem d_R_made_121 : decode prog_8_method_9_code 121 = .ok (.iaload, 1) := by decide +kernel
theorem d_R_made_122 : decode prog_8_method_9_code 122 = .ok (.iconst 1, 1) := by decide +kernel
theorem d_R_made_123 : decode prog_8_method_9_code 123 = .ok (.iadd, 1) := by decide +kernel
theorem d_R_made_124 : decode prog_8_method_9_code 124 = .ok (.aload_n 0, 1) := by decide +kernel
theorem d_R_made_125 : decode prog_8_method_9_code 125 = .ok (.getfield 18, 3) := by decide +kernel
theorem d_R_made_128 : decode prog_8_method_9_code 128 = .ok (.iload 4, 2) := by decide +kernel
theorem d_R_made_130 : decode prog_8_method_9_code 130 = .ok (.iaload, 1) := by decide +kernel
theorem d_R_made_131 : decode prog_8_method_9_code 131 = .ok (.invokespecial 61, 3) := by decide +kernel
theorem d_R_made_134 : decode prog_8_method_9_code 134 = .ok (.aastore, 1) := by decide +kernel
theorem d_R_made_135 : decode prog_8_method_9_code 135 = .ok (.iinc 4 1, 3) := by decide +kernel
theorem d_R_made_138 : decode prog_8_method_9_code 138 = .ok (.goto (-119), 3) := by decide +kernel
theorem d_R_made_61 : decode prog_8_method_9_code 61 = .ok (.aload_n 2, 1) := by decide +kernel
theorem d_R_made_62 : decode prog_8_method_9_code 62 = .ok (.iload 6, 2) := by decide +kernel
theorem d_R_made_64 : decode prog_8_method_9_code 64 = .ok (.iconst 1, 1) := by decide +kernel
theorem d_R_made_65 : decode prog_8_method_9_code 65 = .ok (.isub, 1) := by decide +kernel
theorem d_R_made_66 : decode prog_8_method_9_code 66 = .ok (.aaload, 1) := by decide +kernel
theorem d_R_made_67 : decode prog_8_method_9_code 67 = .ok (.aload 5, 2) := by decide +kernel
theorem d_R_made_69 : decode prog_8_method_9_code 69 = .ok (.invokevirtual 64, 3) := by decide +kernel
theorem d_R_made_72 : decode prog_8_method_9_code 72 = .ok (.ifCond .le 29, 3) := by decide +kernel
theorem d_R_made_75 : decode prog_8_method_9_code 75 = .ok (.aload_n 2, 1) := by decide +kernel
theorem d_R_made_76 : decode prog_8_method_9_code 76 = .ok (.iload 6, 2) := by decide +kernel
theorem d_R_made_78 : decode prog_8_method_9_code 78 = .ok (.aload_n 2, 1) := by decide +kernel
theorem d_R_made_79 : decode prog_8_method_9_code 79 = .ok (.iload 6, 2) := by decide +kernel
theorem d_R_made_81 : decode prog_8_method_9_code 81 = .ok (.iconst 1, 1) := by decide +kernel
theorem d_R_made_82 : decode prog_8_method_9_code 82 = .ok (.isub, 1) := by decide +kernel
theorem d_R_made_83 : decode prog_8_method_9_code 83 = .ok (.aaload, 1) := by decide +kernel
theorem d_R_made_84 : decode prog_8_method_9_code 84 = .ok (.aastore, 1) := by decide +kernel
theorem d_R_made_85 : decode prog_8_method_9_code 85 = .ok (.aload_n 3, 1) := by decide +kernel
theorem d_R_made_86 : decode prog_8_method_9_code 86 = .ok (.iload 6, 2) := by decide +kernel
theorem d_R_made_88 : decode prog_8_method_9_code 88 = .ok (.aload_n 3, 1) := by decide +kernel
theorem d_R_made_89 : decode prog_8_method_9_code 89 = .ok (.iload 6, 2) := by decide +kernel
theorem d_R_made_91 : decode prog_8_method_9_code 91 = .ok (.iconst 1, 1) := by decide +kernel
theorem d_R_made_92 : decode prog_8_method_9_code 92 = .ok (.isub, 1) := by decide +kernel
theorem d_R_made_93 : decode prog_8_method_9_code 93 = .ok (.aaload, 1) := by decide +kernel
theorem d_R_made_94 : decode prog_8_method_9_code 94 = .ok (.aastore, 1) := by decide +kernel
theorem d_R_made_95 : decode prog_8_method_9_code 95 = .ok (.iinc 6 (-1), 3) := by decide +kernel
theorem d_R_made_98 : decode prog_8_method_9_code 98 = .ok (.goto (-42), 3) := by decide +kernel
theorem w1310 : Cond.classLink "SeriesVault$SeriesReader" 59 "SeriesVault$Word" ∈ aW := aw_of (tb_3 (List.mem_of_getElem? (i := 226) rfl)) rfl
theorem w1311 : Cond.classLink "SeriesVault$SeriesReader" 68 "SeriesVault$Series" ∈ aW := aw_of (tb_4 (List.mem_of_getElem? (i := 229) rfl)) rfl
theorem w857 : Cond.instantiable "SeriesVault$Series" 4 ∈ aW := aw_of (tb_4 (List.mem_of_getElem? (i := 230) rfl)) rfl
theorem w1313 : Cond.methodLink "SeriesVault$SeriesReader" 70 ⟨"SeriesVault$Series", "<init>", "([LSeriesVault$Word;[LSeriesVault$Word;)V"⟩ ∈ aW := aw_of (tb_4 (List.mem_of_getElem? (i := 231) rfl)) rfl
theorem w1314 : Cond.code ⟨"SeriesVault$Series", "<init>", "([LSeriesVault$Word;[LSeriesVault$Word;)V"⟩ prog_7_method_1_code 4 none ∈ aW := aw_of (tb_4 (List.mem_of_getElem? (i := 233) rfl)) rfl
theorem w1315 : Cond.instanceMethod ⟨"SeriesVault$Series", "<init>", "([LSeriesVault$Word;[LSeriesVault$Word;)V"⟩ ∈ aW := aw_of (tb_4 (List.mem_of_getElem? (i := 232) rfl)) rfl
theorem w1316 : Cond.methodLink "SeriesVault$SeriesReader" 61 ⟨"SeriesVault$Word", "<init>", "([BII)V"⟩ ∈ aW := aw_of (tb_3 (List.mem_of_getElem? (i := 228) rfl)) rfl
theorem w1317 : Cond.methodLink "SeriesVault$SeriesReader" 64 ⟨"SeriesVault$Word", "compare", "(LSeriesVault$Word;)I"⟩ ∈ aW := aw_of (tb_4 (List.mem_of_getElem? (i := 224) rfl)) rfl
theorem w1318 : Cond.code ⟨"SeriesVault$Word", "compare", "(LSeriesVault$Word;)I"⟩ prog_12_method_3_code 4 (some FieldType.int) ∈ aW := aw_of (tb_4 (List.mem_of_getElem? (i := 227) rfl)) rfl
theorem w1319 : Cond.instanceMethod ⟨"SeriesVault$Word", "compare", "(LSeriesVault$Word;)I"⟩ ∈ aW := aw_of (tb_4 (List.mem_of_getElem? (i := 225) rfl)) rfl
theorem w1320 : Cond.selects "SeriesVault$Word" ⟨"SeriesVault$Word", "compare", "(LSeriesVault$Word;)I"⟩ ⟨"SeriesVault$Word", "compare", "(LSeriesVault$Word;)I"⟩ ∈ aW := aw_of (tb_4 (List.mem_of_getElem? (i := 226) rfl)) rfl
set_option maxHeartbeats 4000000 in
set_option maxRecDepth 100000 in
theorem v_made (l : Launch) (D : va_G) (dA : Nat → ClassId) (sz : Nat) (h : Nat) (ad : Nat → Nat) (x : VS) (len : Nat) (hby : byteF x.tape) (h2 : len ≤ x.tpN) (h3 : x.tpN ≤ 131072) (h4 : x.rlab ≤ 6) (h5 : lbOk len x.rlab x.rS x.rE x.rV) : Met l ⟨"SeriesVault$SeriesReader", "made", "([B)LSeriesVault$Series;"⟩ [Cond.code ⟨"SeriesVault$SeriesReader", "made", "([B)LSeriesVault$Series;"⟩ prog_8_method_9_code 7 (some (FieldType.object "SeriesVault$Series"))] { frames := 6, cells := 32, slots := 930, locals := 132 } (pC D dA [.ref (ad 18), .ref x.tpA] (VW dA h ad x) sz) (va_Qr (fun (_ : VS) => True) (fun (u9 : VS) (r9 : Nat) t9 => (x.pk u9 ∧ isSer dA u9.pl r9 (srtL x.tape x.rS x.rE x.rV x.rlab)) ∧ bW D (va_A (VW dA h ad x) sz) (VW dA h ad u9) t9) (va_A (VW dA h ad x) sz)) 32 930 (va_A (VW dA h ad x) sz) := by
  refine mkC (y := ⟨"SeriesVault$SeriesReader", "made", "([B)LSeriesVault$Series;"⟩) (cc := prog_8_method_9_code) (maxL := 7) (av := [.ref (ad 18), .ref x.tpA]) (ws := VW dA h ad x) (sz := sz) (Qc := fun A => va_Qr (fun (_ : VS) => True) (fun (u9 : VS) (r9 : Nat) t9 => (x.pk u9 ∧ isSer dA u9.pl r9 (srtL x.tape x.rS x.rE x.rV x.rlab)) ∧ bW D A (VW dA h ad u9) t9) A) (by decide) (Nat.le_of_ble_eq_true rfl) ?_
  intro A p e s m below meth c ls hsz hB
  obtain ⟨hx, hb, hr, hml, hown, hin, hlk, hE, hK, hP, hD, hS, hA, hN, hl⟩ := hB
  have hown : s.vm.findClass "SeriesVault$SeriesReader" = some m.cls := hown
  have hl : lv_has ls 7 [(0, .ref (ad 18)), (1, .ref x.tpA)] := hl
  obtain ⟨H, hH⟩ : ∃ z, z = s.heap := ⟨_, rfl⟩
  have hP : va_P D vwCl (VW dA h ad x) H := by rw [hH]; exact hP
  have hS : va_S A s.heap H [] := by rw [hH]; exact hS
  rw [← hH]
  refine lv_aload_n hx hb d_R_made_0 rfl (lv_at hl 0 rfl) ?_
  refine gF (v := .int (nI x.rlab)) hx hb hown hE hK hP 32 rfl rfl layR 3 (by decide) w603 rfl d_R_made_1 ?_
  refine nnQ (N' := x.rlab) hx hb hown hE w1310 w783 hK hP hD hS hA 6 rfl (by omega) (show x.rlab * 4 ≤ 536870912 by omega) (show 0 + 1 ≤ 32 by omega) (show 0 + x.rlab ≤ 930 by omega) d_R_made_4 (fun nq H hP hD hS => ?_)
  have hP : va_P D vwCl ([(nq, .inl (dA 6, x.rlab, .inr (.inr (.inr (.inr (fun _ => none))))))] ++ (VW dA h ad x)) H := hP
  have hD : va_D A ([(nq, .inl (dA 6, x.rlab, .inr (.inr (.inr (.inr (fun _ => none))))))] ++ (VW dA h ad x)) := hD
  refine lv_astore_n hx hb d_R_made_7 rfl hl (by decide) rfl (fun ls hl => ?_)
  have hl : lv_has ls 7 [(2, .ref nq), (0, .ref (ad 18)), (1, .ref x.tpA)] := hl
  refine lv_aload_n hx hb d_R_made_8 rfl (lv_at hl 1 rfl) ?_
  refine gF (v := .int (nI x.rlab)) hx hb hown hE hK hP 33 rfl rfl layR 3 (by decide) w603 rfl d_R_made_9 ?_
  refine nnQ (N' := x.rlab) hx hb hown hE w1310 w783 hK hP hD hS hA 6 rfl (by omega) (show x.rlab * 4 ≤ 536870912 by omega) (show (0 + 1) + 1 ≤ 32 by omega) (show (0 + x.rlab) + x.rlab ≤ 930 by omega) d_R_made_12 (fun vq H hP hD hS => ?_)
  have hP : va_P D vwCl ([(vq, .inl (dA 6, x.rlab, .inr (.inr (.inr (.inr (fun _ => none))))))] ++ ([(nq, .inl (dA 6, x.rlab, .inr (.inr (.inr (.inr (fun _ => none))))))] ++ (VW dA h ad x))) H := hP
  have hD : va_D A ([(vq, .inl (dA 6, x.rlab, .inr (.inr (.inr (.inr (fun _ => none))))))] ++ ([(nq, .inl (dA 6, x.rlab, .inr (.inr (.inr (.inr (fun _ => none))))))] ++ (VW dA h ad x))) := hD
  refine lv_astore_n hx hb d_R_made_15 rfl hl (by decide) rfl (fun ls hl => ?_)
  have hl : lv_has ls 7 [(3, .ref vq), (2, .ref nq), (0, .ref (ad 18)), (1, .ref x.tpA)] := hl
  refine lv_iconst (v := 0) hx hb d_R_made_16 (by decide) ?_
  refine lv_istore hx hb d_R_made_17 hl (by decide) rfl (fun ls hl => ?_)
  have hl : lv_has ls 7 [(4, .int 0), (3, .ref vq), (2, .ref nq), (0, .ref (ad 18)), (1, .ref x.tpA)] := hl
  have L19 : ∀ (k9 : Nat) (i : Nat) (fn : Nat → Option Nat) (fv : Nat → Option Nat) (pl : va_W) (i1 : i ≤ x.rlab) (hs : ∀ c, c ∈ x.pl → c ∈ pl) (hel : lbW dA pl fn fv (srtL x.tape x.rS x.rE x.rV i)) (hk9 : x.rlab - i = k9), ∀ (H : Heap) (locs : List Loc) (ls : Array Slot) (hP : va_P D vwCl ([(vq, .inl (dA 6, x.rlab, .inr (.inr (.inr (.inr fv)))))] ++ ([(nq, .inl (dA 6, x.rlab, .inr (.inr (.inr (.inr fn)))))] ++ (VW dA h ad (VS.s_pl x pl)))) H) (hD : va_D A ([(vq, .inl (dA 6, x.rlab, .inr (.inr (.inr (.inr fv)))))] ++ ([(nq, .inl (dA 6, x.rlab, .inr (.inr (.inr (.inr fn)))))] ++ (VW dA h ad (VS.s_pl x pl))))) (hS : va_S A s.heap H locs) (hl : lv_has ls 7 [(0, .ref (ad 18)), (1, .ref x.tpA), (2, .ref nq), (3, .ref vq), (4, .int (nI i))]), W p l e ({ frames := 6, cells := 32, slots := 930, locals := 132 } : Room) s m ([.ref (ad 18), .ref x.tpA] : List Value).toArray below meth c H locs (2 + 4 * i) (2 * x.rlab + 50 * i) (MQ below (va_Qr (fun (_ : VS) => True) (fun (u9 : VS) (r9 : Nat) t9 => (x.pk u9 ∧ isSer dA u9.pl r9 (srtL x.tape x.rS x.rE x.rV x.rlab)) ∧ bW D A (VW dA h ad u9) t9) A) ([.ref (ad 18), .ref x.tpA] : List Value).toArray s 32 930 A) (F0 m 19 ls []) := by
    intro k9
    induction k9 using Nat.strongRecOn with
    | ind k9 ih19 =>
      intro i fn fv pl i1 hs hel hk9 H locs ls hP hD hS hl
      refine lv_iload hx hb d_R_made_19 (lv_at hl 4 rfl) ?_
      refine lv_aload_n hx hb d_R_made_21 rfl (lv_at hl 0 rfl) ?_
      refine gF (v := .int (nI x.rlab)) hx hb hown hE hK hP 34 rfl rfl layR 3 (by decide) w603 rfl d_R_made_22 ?_
      refine lv_icmp_ge hx hb d_R_made_25 (tgt := 141) rfl (fun g1 => ?_) (fun g1 => ?_)
      · have g1 := (nI_leI (a := x.rlab) (b := i) (by omega) (by omega)).mp g1
        have jl := jt_le (S := (srtL x.tape x.rS x.rE x.rV i)) (by rw [show i = x.rlab by omega]; exact srt_sOk h5 h4)
        refine nOf hx hb hown hE hK hP hD hS hA (ci := 11) rfl layS tyS tokS w1311 w857 w1288 (fs := [.null, .null, .null, .null]) dfS (show (2 + 4 * i) + 1 ≤ 32 by omega) (show (2 * x.rlab + 50 * i) + 4 ≤ 930 by omega) d_R_made_141 (fun sp H hP hD hS => ?_)
        have hP : va_P D vwCl ([(sp, .inr (11, [.null, .null, .null, .null]))] ++ ([(vq, .inl (dA 6, x.rlab, .inr (.inr (.inr (.inr fv)))))] ++ ([(nq, .inl (dA 6, x.rlab, .inr (.inr (.inr (.inr fn)))))] ++ (VW dA h ad (VS.s_pl x pl))))) H := hP
        have hD : va_D A ([(sp, .inr (11, [.null, .null, .null, .null]))] ++ ([(vq, .inl (dA 6, x.rlab, .inr (.inr (.inr (.inr fv)))))] ++ ([(nq, .inl (dA 6, x.rlab, .inr (.inr (.inr (.inr fn)))))] ++ (VW dA h ad (VS.s_pl x pl))))) := hD
        refine lv_dup hx hb d_R_made_144 rfl ?_
        refine lv_aload_n hx hb d_R_made_145 rfl (lv_at hl 2 rfl) ?_
        refine lv_aload_n hx hb d_R_made_146 rfl (lv_at hl 3 rfl) ?_
        refine jkV (wr := []) (rnI (As := [.ref nq, .ref vq]) (rest := [.ref sp]) hx hb hml hown hE hK (hN _ _ hS) hP hD (v_Sinit l D dA H.size ([(vq, .inl (dA 6, x.rlab, .inr (.inr (.inr (.inr fv)))))] ++ ([(nq, .inl (dA 6, x.rlab, .inr (.inr (.inr (.inr fn)))))] ++ (VW dA h ad (VS.s_pl x pl)))) sp nq vq (srtL x.tape x.rS x.rE x.rV i) fn fv (by rw [srtL_len, show i = x.rlab by omega]; exact (List.mem_of_getElem? (i := 1) rfl)) (by rw [srtL_len, show i = x.rlab by omega]; exact (List.mem_of_getElem? (i := 0) rfl)) (fun k hk => by obtain ⟨p9, q9, a1, a2, a3, a4⟩ := hel k hk; exact ⟨p9, q9, a1, isWo_m (fun _ hm => (List.mem_append_right _ (List.mem_append_right _ (plm hm)))) a2, a3, isWo_m (fun _ hm => (List.mem_append_right _ (List.mem_append_right _ (plm hm)))) a4⟩) (by rw [show i = x.rlab by omega]; exact srt_sOk h5 h4)) w1314 w1313 w1315 w1288 rfl rfl rfl ⟨⟨by decide, by decide⟩, rfl⟩ ⟨(Nat.le_of_ble_eq_true rfl), (Nat.le_of_ble_eq_true rfl)⟩ rfl hl.1 rfl (Nat.le_of_ble_eq_true rfl) d_R_made_147 ⟨(show 2 + 4 * i + 1 + 5 ≤ 32 by omega), (show 2 * x.rlab + 50 * i + 4 + (2 * (joinT (srtL x.tape x.rS x.rE x.rV i)).length + 2) ≤ 930 by omega)⟩) hP hD hS hA (fun u3 H locs hp9 hP hD hS => ?_)
        obtain ⟨no, tx, bt, bn, gt, gn⟩ := u3
        have hP : va_P D vwCl ([(tx, .inr (10, [.ref bt]))] ++ ([(bt, .inl (dA 0, (joinT (srtL x.tape x.rS x.rE x.rV i)).length, .inl gt))] ++ ([(no, .inr (10, [.ref bn]))] ++ ([(bn, .inl (dA 0, 0, .inl gn))] ++ ([(sp, .inr (11, [.ref nq, .ref vq, .ref no, .ref tx]))] ++ ([(vq, .inl (dA 6, x.rlab, .inr (.inr (.inr (.inr fv)))))] ++ ([(nq, .inl (dA 6, x.rlab, .inr (.inr (.inr (.inr fn)))))] ++ (VW dA h ad (VS.s_pl x pl))))))))) H := hP
        have hD : va_D A ([(tx, .inr (10, [.ref bt]))] ++ ([(bt, .inl (dA 0, (joinT (srtL x.tape x.rS x.rE x.rV i)).length, .inl gt))] ++ ([(no, .inr (10, [.ref bn]))] ++ ([(bn, .inl (dA 0, 0, .inl gn))] ++ ([(sp, .inr (11, [.ref nq, .ref vq, .ref no, .ref tx]))] ++ ([(vq, .inl (dA 6, x.rlab, .inr (.inr (.inr (.inr fv)))))] ++ ([(nq, .inl (dA 6, x.rlab, .inr (.inr (.inr (.inr fn)))))] ++ (VW dA h ad (VS.s_pl x pl))))))))) := hD
        obtain ⟨f_y1_4, f_y2_5, f_y3_6⟩ := hp9
        have hP : va_P D vwCl (VW dA h ad (VS.s_pl x (pl ++ ([(tx, .inr (10, [.ref bt]))] ++ ([(bt, .inl (dA 0, (joinT (srtL x.tape x.rS x.rE x.rV i)).length, .inl gt))] ++ ([(no, .inr (10, [.ref bn]))] ++ ([(bn, .inl (dA 0, 0, .inl gn))] ++ ([(sp, .inr (11, [.ref nq, .ref vq, .ref no, .ref tx]))] ++ ([(vq, .inl (dA 6, x.rlab, .inr (.inr (.inr (.inr fv)))))] ++ ([(nq, .inl (dA 6, x.rlab, .inr (.inr (.inr (.inr fn)))))])))))))))) H := pmP (show List.Perm (α := Nat × va_E) ([(tx, .inr (10, [.ref bt]))] ++ ([(bt, .inl (dA 0, (joinT (srtL x.tape x.rS x.rE x.rV i)).length, .inl gt))] ++ ([(no, .inr (10, [.ref bn]))] ++ ([(bn, .inl (dA 0, 0, .inl gn))] ++ ([(sp, .inr (11, [.ref nq, .ref vq, .ref no, .ref tx]))] ++ ([(vq, .inl (dA 6, x.rlab, .inr (.inr (.inr (.inr fv)))))] ++ ([(nq, .inl (dA 6, x.rlab, .inr (.inr (.inr (.inr fn)))))] ++ (VW dA h ad (VS.s_pl x pl))))))))) (VW dA h ad (VS.s_pl x (pl ++ ([(tx, .inr (10, [.ref bt]))] ++ ([(bt, .inl (dA 0, (joinT (srtL x.tape x.rS x.rE x.rV i)).length, .inl gt))] ++ ([(no, .inr (10, [.ref bn]))] ++ ([(bn, .inl (dA 0, 0, .inl gn))] ++ ([(sp, .inr (11, [.ref nq, .ref vq, .ref no, .ref tx]))] ++ ([(vq, .inl (dA 6, x.rlab, .inr (.inr (.inr (.inr fv)))))] ++ ([(nq, .inl (dA 6, x.rlab, .inr (.inr (.inr (.inr fn)))))])))))))))) from plP7 (dA := dA) (h := h) (ad := ad) (VS.s_pl x pl) ([(tx, .inr (10, [.ref bt]))]) ([(bt, .inl (dA 0, (joinT (srtL x.tape x.rS x.rE x.rV i)).length, .inl gt))]) ([(no, .inr (10, [.ref bn]))]) ([(bn, .inl (dA 0, 0, .inl gn))]) ([(sp, .inr (11, [.ref nq, .ref vq, .ref no, .ref tx]))]) ([(vq, .inl (dA 6, x.rlab, .inr (.inr (.inr (.inr fv)))))]) ([(nq, .inl (dA 6, x.rlab, .inr (.inr (.inr (.inr fn)))))])) hP
        have hD : va_D A (VW dA h ad (VS.s_pl x (pl ++ ([(tx, .inr (10, [.ref bt]))] ++ ([(bt, .inl (dA 0, (joinT (srtL x.tape x.rS x.rE x.rV i)).length, .inl gt))] ++ ([(no, .inr (10, [.ref bn]))] ++ ([(bn, .inl (dA 0, 0, .inl gn))] ++ ([(sp, .inr (11, [.ref nq, .ref vq, .ref no, .ref tx]))] ++ ([(vq, .inl (dA 6, x.rlab, .inr (.inr (.inr (.inr fv)))))] ++ ([(nq, .inl (dA 6, x.rlab, .inr (.inr (.inr (.inr fn)))))])))))))))) := pmD (show List.Perm (α := Nat × va_E) ([(tx, .inr (10, [.ref bt]))] ++ ([(bt, .inl (dA 0, (joinT (srtL x.tape x.rS x.rE x.rV i)).length, .inl gt))] ++ ([(no, .inr (10, [.ref bn]))] ++ ([(bn, .inl (dA 0, 0, .inl gn))] ++ ([(sp, .inr (11, [.ref nq, .ref vq, .ref no, .ref tx]))] ++ ([(vq, .inl (dA 6, x.rlab, .inr (.inr (.inr (.inr fv)))))] ++ ([(nq, .inl (dA 6, x.rlab, .inr (.inr (.inr (.inr fn)))))] ++ (VW dA h ad (VS.s_pl x pl))))))))) (VW dA h ad (VS.s_pl x (pl ++ ([(tx, .inr (10, [.ref bt]))] ++ ([(bt, .inl (dA 0, (joinT (srtL x.tape x.rS x.rE x.rV i)).length, .inl gt))] ++ ([(no, .inr (10, [.ref bn]))] ++ ([(bn, .inl (dA 0, 0, .inl gn))] ++ ([(sp, .inr (11, [.ref nq, .ref vq, .ref no, .ref tx]))] ++ ([(vq, .inl (dA 6, x.rlab, .inr (.inr (.inr (.inr fv)))))] ++ ([(nq, .inl (dA 6, x.rlab, .inr (.inr (.inr (.inr fn)))))])))))))))) from plP7 (dA := dA) (h := h) (ad := ad) (VS.s_pl x pl) ([(tx, .inr (10, [.ref bt]))]) ([(bt, .inl (dA 0, (joinT (srtL x.tape x.rS x.rE x.rV i)).length, .inl gt))]) ([(no, .inr (10, [.ref bn]))]) ([(bn, .inl (dA 0, 0, .inl gn))]) ([(sp, .inr (11, [.ref nq, .ref vq, .ref no, .ref tx]))]) ([(vq, .inl (dA 6, x.rlab, .inr (.inr (.inr (.inr fv)))))]) ([(nq, .inl (dA 6, x.rlab, .inr (.inr (.inr (.inr fn)))))])) hD
        obtain ⟨pl7, e_pl7⟩ : ∃ z, z = pl ++ ([(tx, .inr (10, [.ref bt]))] ++ ([(bt, .inl (dA 0, (joinT (srtL x.tape x.rS x.rE x.rV i)).length, .inl gt))] ++ ([(no, .inr (10, [.ref bn]))] ++ ([(bn, .inl (dA 0, 0, .inl gn))] ++ ([(sp, .inr (11, [.ref nq, .ref vq, .ref no, .ref tx]))] ++ ([(vq, .inl (dA 6, x.rlab, .inr (.inr (.inr (.inr fv)))))] ++ ([(nq, .inl (dA 6, x.rlab, .inr (.inr (.inr (.inr fn)))))]))))))) := ⟨_, rfl⟩
        rw [← e_pl7] at hP hD
        have s_pl7 : ∀ c, c ∈ pl → c ∈ pl7 := by rw [e_pl7]; exact fun _ hm => List.mem_append_left _ hm
        have t_pl7_0 : ((tx, .inr (10, [.ref bt])) : Nat × va_E) ∈ pl7 := by rw [e_pl7]; exact List.mem_append_right _ (List.mem_of_getElem? (i := 0) rfl)
        have t_pl7_1 : ((bt, .inl (dA 0, (joinT (srtL x.tape x.rS x.rE x.rV i)).length, .inl gt)) : Nat × va_E) ∈ pl7 := by rw [e_pl7]; exact List.mem_append_right _ (List.mem_of_getElem? (i := 1) rfl)
        have t_pl7_2 : ((no, .inr (10, [.ref bn])) : Nat × va_E) ∈ pl7 := by rw [e_pl7]; exact List.mem_append_right _ (List.mem_of_getElem? (i := 2) rfl)
        have t_pl7_3 : ((bn, .inl (dA 0, 0, .inl gn)) : Nat × va_E) ∈ pl7 := by rw [e_pl7]; exact List.mem_append_right _ (List.mem_of_getElem? (i := 3) rfl)
        have t_pl7_4 : ((sp, .inr (11, [.ref nq, .ref vq, .ref no, .ref tx])) : Nat × va_E) ∈ pl7 := by rw [e_pl7]; exact List.mem_append_right _ (List.mem_of_getElem? (i := 4) rfl)
        have t_pl7_5 : ((vq, .inl (dA 6, x.rlab, .inr (.inr (.inr (.inr fv))))) : Nat × va_E) ∈ pl7 := by rw [e_pl7]; exact List.mem_append_right _ (List.mem_of_getElem? (i := 5) rfl)
        have t_pl7_6 : ((nq, .inl (dA 6, x.rlab, .inr (.inr (.inr (.inr fn))))) : Nat × va_E) ∈ pl7 := by rw [e_pl7]; exact List.mem_append_right _ (List.mem_of_getElem? (i := 6) rfl)
        have hP : va_P D vwCl (VW dA h ad (VS.s_pl x pl7)) H := hP
        have hD : va_D A (VW dA h ad (VS.s_pl x pl7)) := hD
        have hser : isSer dA pl7 sp (srtL x.tape x.rS x.rE x.rV i) := by
          refine ⟨nq, vq, no, tx, fn, fv, t_pl7_4, ?_, ?_, isWo_n t_pl7_2 t_pl7_3 f_y3_6 rfl (fun q hq => absurd hq (Nat.not_lt_zero q)), isWo_n t_pl7_0 t_pl7_1 f_y1_4 rfl f_y2_5, lbW_m s_pl7 hel⟩
          · rw [srtL_len, show i = x.rlab by omega]; exact t_pl7_6
          · rw [srtL_len, show i = x.rlab by omega]; exact t_pl7_5
        exact rkR hx hb hr (Or.inl ⟨_, rfl⟩) hlk hS (VS.s_pl x pl7) ⟨⟨rfl, fun c hc => s_pl7 c (hs c hc)⟩, by rw [← show i = x.rlab by omega]; exact hser⟩ hP hD (show 2 + 4 * i + 1 + 5 ≤ 32 by omega) (show 2 * x.rlab + 50 * i + 4 + (2 * (joinT (srtL x.tape x.rS x.rE x.rV i)).length + 2) ≤ 930 by omega) d_R_made_150
      · have g1 := mt (nI_leI (a := x.rlab) (b := i) (by omega) (by omega)).mpr g1
        have b5 := h5 i (by omega)
        refine nOf hx hb hown hE hK hP hD hS hA (ci := 10) rfl layW tyW tokW w1310 w856 w1281 (fs := [.null]) dfW (show (2 + 4 * i) + 1 ≤ 32 by omega) (show (2 * x.rlab + 50 * i) + 1 ≤ 930 by omega) d_R_made_28 (fun pp H hP hD hS => ?_)
        have hP : va_P D vwCl ([(pp, .inr (10, [.null]))] ++ ([(vq, .inl (dA 6, x.rlab, .inr (.inr (.inr (.inr fv)))))] ++ ([(nq, .inl (dA 6, x.rlab, .inr (.inr (.inr (.inr fn)))))] ++ (VW dA h ad (VS.s_pl x pl))))) H := hP
        have hD : va_D A ([(pp, .inr (10, [.null]))] ++ ([(vq, .inl (dA 6, x.rlab, .inr (.inr (.inr (.inr fv)))))] ++ ([(nq, .inl (dA 6, x.rlab, .inr (.inr (.inr (.inr fn)))))] ++ (VW dA h ad (VS.s_pl x pl))))) := hD
        refine lv_dup hx hb d_R_made_31 rfl ?_
        refine lv_aload_n hx hb d_R_made_32 rfl (lv_at hl 1 rfl) ?_
        refine lv_aload_n hx hb d_R_made_33 rfl (lv_at hl 0 rfl) ?_
        refine gF (v := .ref (ad 19)) hx hb hown hE hK hP 35 rfl rfl layR 0 (by decide) w206 rfl d_R_made_34 ?_
        refine lv_iload hx hb d_R_made_37 (lv_at hl 4 rfl) ?_
        refine nild (f := (fun z9 => nI (x.rS z9))) (n := 6) hx hb hK hP (36) 1 rfl rfl (i) (by omega) (by decide) d_R_made_39 ?_
        refine lv_aload_n hx hb d_R_made_40 rfl (lv_at hl 0 rfl) ?_
        refine gF (v := .ref (ad 20)) hx hb hown hE hK hP 35 rfl rfl layR 1 (by decide) w207 rfl d_R_made_41 ?_
        refine lv_iload hx hb d_R_made_44 (lv_at hl 4 rfl) ?_
        refine nild (f := (fun z9 => nI (x.rE z9))) (n := 6) hx hb hK hP (37) 1 rfl rfl (i) (by omega) (by decide) d_R_made_46 ?_
        refine jkV (wr := []) (rnI (As := [.ref x.tpA, .int (nI (x.rS i)), .int (nI (x.rE i))]) (rest := [.ref pp]) hx hb hml hown hE hK (hN _ _ hS) hP hD (v_Winit l D dA H.size ([(vq, .inl (dA 6, x.rlab, .inr (.inr (.inr (.inr fv)))))] ++ ([(nq, .inl (dA 6, x.rlab, .inr (.inr (.inr (.inr fn)))))] ++ (VW dA h ad (VS.s_pl x pl)))) pp x.tpA x.tpN x.tape (x.rS i) (x.rE i) (List.mem_of_getElem? (i := 3) rfl) hby (show (x.rS i) ≤ (x.rE i) from by omega) (show (x.rE i) ≤ x.tpN from by omega) (show x.tpN ≤ 131072 from by omega)) w1308 w1316 w1309 w1281 rfl rfl rfl ⟨⟨by decide, by decide⟩, rfl⟩ ⟨(Nat.le_of_ble_eq_true rfl), (Nat.le_of_ble_eq_true rfl)⟩ rfl hl.1 rfl (Nat.le_of_ble_eq_true rfl) d_R_made_47 ⟨(show 2 + 4 * i + 1 + 1 ≤ 32 by omega), (show 2 * x.rlab + 50 * i + 1 + ((x.rE i) - (x.rS i)) ≤ 930 by omega)⟩) hP hD hS hA (fun u9 H locs hp9 hP hD hS => ?_)
        obtain ⟨bq, g1⟩ := u9
        have hP : va_P D vwCl ([(bq, .inl (dA 0, (x.rE i) - (x.rS i), .inl g1))] ++ ([(pp, .inr (10, [.ref bq]))] ++ ([(vq, .inl (dA 6, x.rlab, .inr (.inr (.inr (.inr fv)))))] ++ ([(nq, .inl (dA 6, x.rlab, .inr (.inr (.inr (.inr fn)))))] ++ (VW dA h ad (VS.s_pl x pl)))))) H := hP
        have hD : va_D A ([(bq, .inl (dA 0, (x.rE i) - (x.rS i), .inl g1))] ++ ([(pp, .inr (10, [.ref bq]))] ++ ([(vq, .inl (dA 6, x.rlab, .inr (.inr (.inr (.inr fv)))))] ++ ([(nq, .inl (dA 6, x.rlab, .inr (.inr (.inr (.inr fn)))))] ++ (VW dA h ad (VS.s_pl x pl)))))) := hD
        obtain ⟨f_y_10, f_hg_11⟩ := hp9
        have hP := pmP (show List.Perm (α := Nat × va_E) ([(bq, .inl (dA 0, (x.rE i) - (x.rS i), .inl g1))] ++ ([(pp, .inr (10, [.ref bq]))] ++ ([(vq, .inl (dA 6, x.rlab, .inr (.inr (.inr (.inr fv)))))] ++ ([(nq, .inl (dA 6, x.rlab, .inr (.inr (.inr (.inr fn)))))] ++ (VW dA h ad (VS.s_pl x pl)))))) ([(vq, .inl (dA 6, x.rlab, .inr (.inr (.inr (.inr fv)))))] ++ ([(bq, .inl (dA 0, (x.rE i) - (x.rS i), .inl g1))] ++ ([(pp, .inr (10, [.ref bq]))] ++ ([(nq, .inl (dA 6, x.rlab, .inr (.inr (.inr (.inr fn)))))] ++ (VW dA h ad (VS.s_pl x pl)))))) from (List.Perm.append_left ([(bq, .inl (dA 0, (x.rE i) - (x.rS i), .inl g1))]) (List.perm_append_comm_assoc ([(pp, .inr (10, [.ref bq]))]) ([(vq, .inl (dA 6, x.rlab, .inr (.inr (.inr (.inr fv)))))]) ([(nq, .inl (dA 6, x.rlab, .inr (.inr (.inr (.inr fn)))))] ++ (VW dA h ad (VS.s_pl x pl))))).trans (List.perm_append_comm_assoc ([(bq, .inl (dA 0, (x.rE i) - (x.rS i), .inl g1))]) ([(vq, .inl (dA 6, x.rlab, .inr (.inr (.inr (.inr fv)))))]) ([(pp, .inr (10, [.ref bq]))] ++ ([(nq, .inl (dA 6, x.rlab, .inr (.inr (.inr (.inr fn)))))] ++ (VW dA h ad (VS.s_pl x pl)))))) hP
        have hD := pmD (show List.Perm (α := Nat × va_E) ([(bq, .inl (dA 0, (x.rE i) - (x.rS i), .inl g1))] ++ ([(pp, .inr (10, [.ref bq]))] ++ ([(vq, .inl (dA 6, x.rlab, .inr (.inr (.inr (.inr fv)))))] ++ ([(nq, .inl (dA 6, x.rlab, .inr (.inr (.inr (.inr fn)))))] ++ (VW dA h ad (VS.s_pl x pl)))))) ([(vq, .inl (dA 6, x.rlab, .inr (.inr (.inr (.inr fv)))))] ++ ([(bq, .inl (dA 0, (x.rE i) - (x.rS i), .inl g1))] ++ ([(pp, .inr (10, [.ref bq]))] ++ ([(nq, .inl (dA 6, x.rlab, .inr (.inr (.inr (.inr fn)))))] ++ (VW dA h ad (VS.s_pl x pl)))))) from (List.Perm.append_left ([(bq, .inl (dA 0, (x.rE i) - (x.rS i), .inl g1))]) (List.perm_append_comm_assoc ([(pp, .inr (10, [.ref bq]))]) ([(vq, .inl (dA 6, x.rlab, .inr (.inr (.inr (.inr fv)))))]) ([(nq, .inl (dA 6, x.rlab, .inr (.inr (.inr (.inr fn)))))] ++ (VW dA h ad (VS.s_pl x pl))))).trans (List.perm_append_comm_assoc ([(bq, .inl (dA 0, (x.rE i) - (x.rS i), .inl g1))]) ([(vq, .inl (dA 6, x.rlab, .inr (.inr (.inr (.inr fv)))))]) ([(pp, .inr (10, [.ref bq]))] ++ ([(nq, .inl (dA 6, x.rlab, .inr (.inr (.inr (.inr fn)))))] ++ (VW dA h ad (VS.s_pl x pl)))))) hD
        have hP := pmP (show List.Perm (α := Nat × va_E) ([(vq, .inl (dA 6, x.rlab, .inr (.inr (.inr (.inr fv)))))] ++ ([(bq, .inl (dA 0, (x.rE i) - (x.rS i), .inl g1))] ++ ([(pp, .inr (10, [.ref bq]))] ++ ([(nq, .inl (dA 6, x.rlab, .inr (.inr (.inr (.inr fn)))))] ++ (VW dA h ad (VS.s_pl x pl)))))) ([(vq, .inl (dA 6, x.rlab, .inr (.inr (.inr (.inr fv)))))] ++ ([(nq, .inl (dA 6, x.rlab, .inr (.inr (.inr (.inr fn)))))] ++ ([(bq, .inl (dA 0, (x.rE i) - (x.rS i), .inl g1))] ++ ([(pp, .inr (10, [.ref bq]))] ++ (VW dA h ad (VS.s_pl x pl)))))) from List.Perm.append_left ([(vq, .inl (dA 6, x.rlab, .inr (.inr (.inr (.inr fv)))))]) ((List.Perm.append_left ([(bq, .inl (dA 0, (x.rE i) - (x.rS i), .inl g1))]) (List.perm_append_comm_assoc ([(pp, .inr (10, [.ref bq]))]) ([(nq, .inl (dA 6, x.rlab, .inr (.inr (.inr (.inr fn)))))]) (VW dA h ad (VS.s_pl x pl)))).trans (List.perm_append_comm_assoc ([(bq, .inl (dA 0, (x.rE i) - (x.rS i), .inl g1))]) ([(nq, .inl (dA 6, x.rlab, .inr (.inr (.inr (.inr fn)))))]) ([(pp, .inr (10, [.ref bq]))] ++ (VW dA h ad (VS.s_pl x pl)))))) hP
        have hD := pmD (show List.Perm (α := Nat × va_E) ([(vq, .inl (dA 6, x.rlab, .inr (.inr (.inr (.inr fv)))))] ++ ([(bq, .inl (dA 0, (x.rE i) - (x.rS i), .inl g1))] ++ ([(pp, .inr (10, [.ref bq]))] ++ ([(nq, .inl (dA 6, x.rlab, .inr (.inr (.inr (.inr fn)))))] ++ (VW dA h ad (VS.s_pl x pl)))))) ([(vq, .inl (dA 6, x.rlab, .inr (.inr (.inr (.inr fv)))))] ++ ([(nq, .inl (dA 6, x.rlab, .inr (.inr (.inr (.inr fn)))))] ++ ([(bq, .inl (dA 0, (x.rE i) - (x.rS i), .inl g1))] ++ ([(pp, .inr (10, [.ref bq]))] ++ (VW dA h ad (VS.s_pl x pl)))))) from List.Perm.append_left ([(vq, .inl (dA 6, x.rlab, .inr (.inr (.inr (.inr fv)))))]) ((List.Perm.append_left ([(bq, .inl (dA 0, (x.rE i) - (x.rS i), .inl g1))]) (List.perm_append_comm_assoc ([(pp, .inr (10, [.ref bq]))]) ([(nq, .inl (dA 6, x.rlab, .inr (.inr (.inr (.inr fn)))))]) (VW dA h ad (VS.s_pl x pl)))).trans (List.perm_append_comm_assoc ([(bq, .inl (dA 0, (x.rE i) - (x.rS i), .inl g1))]) ([(nq, .inl (dA 6, x.rlab, .inr (.inr (.inr (.inr fn)))))]) ([(pp, .inr (10, [.ref bq]))] ++ (VW dA h ad (VS.s_pl x pl)))))) hD
        have hP : va_P D vwCl ([(vq, .inl (dA 6, x.rlab, .inr (.inr (.inr (.inr fv)))))] ++ ([(nq, .inl (dA 6, x.rlab, .inr (.inr (.inr (.inr fn)))))] ++ (VW dA h ad (VS.s_pl x (pl ++ ([(bq, .inl (dA 0, (x.rE i) - (x.rS i), .inl g1))] ++ ([(pp, .inr (10, [.ref bq]))]))))))) H := pmP (show List.Perm (α := Nat × va_E) ([(vq, .inl (dA 6, x.rlab, .inr (.inr (.inr (.inr fv)))))] ++ ([(nq, .inl (dA 6, x.rlab, .inr (.inr (.inr (.inr fn)))))] ++ ([(bq, .inl (dA 0, (x.rE i) - (x.rS i), .inl g1))] ++ ([(pp, .inr (10, [.ref bq]))] ++ (VW dA h ad (VS.s_pl x pl)))))) ([(vq, .inl (dA 6, x.rlab, .inr (.inr (.inr (.inr fv)))))] ++ ([(nq, .inl (dA 6, x.rlab, .inr (.inr (.inr (.inr fn)))))] ++ (VW dA h ad (VS.s_pl x (pl ++ ([(bq, .inl (dA 0, (x.rE i) - (x.rS i), .inl g1))] ++ ([(pp, .inr (10, [.ref bq]))]))))))) from List.Perm.append_left ([(vq, .inl (dA 6, x.rlab, .inr (.inr (.inr (.inr fv)))))]) (List.Perm.append_left ([(nq, .inl (dA 6, x.rlab, .inr (.inr (.inr (.inr fn)))))]) (plP2 (dA := dA) (h := h) (ad := ad) (VS.s_pl x pl) ([(bq, .inl (dA 0, (x.rE i) - (x.rS i), .inl g1))]) ([(pp, .inr (10, [.ref bq]))])))) hP
        have hD : va_D A ([(vq, .inl (dA 6, x.rlab, .inr (.inr (.inr (.inr fv)))))] ++ ([(nq, .inl (dA 6, x.rlab, .inr (.inr (.inr (.inr fn)))))] ++ (VW dA h ad (VS.s_pl x (pl ++ ([(bq, .inl (dA 0, (x.rE i) - (x.rS i), .inl g1))] ++ ([(pp, .inr (10, [.ref bq]))]))))))) := pmD (show List.Perm (α := Nat × va_E) ([(vq, .inl (dA 6, x.rlab, .inr (.inr (.inr (.inr fv)))))] ++ ([(nq, .inl (dA 6, x.rlab, .inr (.inr (.inr (.inr fn)))))] ++ ([(bq, .inl (dA 0, (x.rE i) - (x.rS i), .inl g1))] ++ ([(pp, .inr (10, [.ref bq]))] ++ (VW dA h ad (VS.s_pl x pl)))))) ([(vq, .inl (dA 6, x.rlab, .inr (.inr (.inr (.inr fv)))))] ++ ([(nq, .inl (dA 6, x.rlab, .inr (.inr (.inr (.inr fn)))))] ++ (VW dA h ad (VS.s_pl x (pl ++ ([(bq, .inl (dA 0, (x.rE i) - (x.rS i), .inl g1))] ++ ([(pp, .inr (10, [.ref bq]))]))))))) from List.Perm.append_left ([(vq, .inl (dA 6, x.rlab, .inr (.inr (.inr (.inr fv)))))]) (List.Perm.append_left ([(nq, .inl (dA 6, x.rlab, .inr (.inr (.inr (.inr fn)))))]) (plP2 (dA := dA) (h := h) (ad := ad) (VS.s_pl x pl) ([(bq, .inl (dA 0, (x.rE i) - (x.rS i), .inl g1))]) ([(pp, .inr (10, [.ref bq]))])))) hD
        obtain ⟨pl12, e_pl12⟩ : ∃ z, z = pl ++ ([(bq, .inl (dA 0, (x.rE i) - (x.rS i), .inl g1))] ++ ([(pp, .inr (10, [.ref bq]))])) := ⟨_, rfl⟩
        rw [← e_pl12] at hP hD
        have s_pl12 : ∀ c, c ∈ pl → c ∈ pl12 := by rw [e_pl12]; exact fun _ hm => List.mem_append_left _ hm
        have t_pl12_0 : ((bq, .inl (dA 0, (x.rE i) - (x.rS i), .inl g1)) : Nat × va_E) ∈ pl12 := by rw [e_pl12]; exact List.mem_append_right _ (List.mem_of_getElem? (i := 0) rfl)
        have t_pl12_1 : ((pp, .inr (10, [.ref bq])) : Nat × va_E) ∈ pl12 := by rw [e_pl12]; exact List.mem_append_right _ (List.mem_of_getElem? (i := 1) rfl)
        have hP : va_P D vwCl ([(vq, .inl (dA 6, x.rlab, .inr (.inr (.inr (.inr fv)))))] ++ ([(nq, .inl (dA 6, x.rlab, .inr (.inr (.inr (.inr fn)))))] ++ (VW dA h ad (VS.s_pl x pl12)))) H := hP
        have hD : va_D A ([(vq, .inl (dA 6, x.rlab, .inr (.inr (.inr (.inr fv)))))] ++ ([(nq, .inl (dA 6, x.rlab, .inr (.inr (.inr (.inr fn)))))] ++ (VW dA h ad (VS.s_pl x pl12)))) := hD
        have kpp := t_pl12_1
        have wpp : isWo dA pl12 pp (rawL x.tape x.rS x.rE x.rV i).1 := isWo_n t_pl12_1 t_pl12_0 f_y_10 (seg_len _ _ _) (fun k hk => (f_hg_11 k hk).trans (seg_get _ hk).symm)
        have hel1 : lbW dA pl12 fn fv (srtL x.tape x.rS x.rE x.rV i) := lbW_m s_pl12 hel
        have hs1 : ∀ c, c ∈ x.pl → c ∈ pl12 := fun c hc => s_pl12 c (hs c hc)
        refine lv_astore hx hb d_R_made_50 hl (by decide) rfl (fun ls hl => ?_)
        have hl : lv_has ls 7 [(5, .ref pp), (0, .ref (ad 18)), (1, .ref x.tpA), (2, .ref nq), (3, .ref vq), (4, .int (nI i))] := hl
        refine lv_iload hx hb d_R_made_52 (lv_at hl 5 rfl) ?_
        refine lv_istore hx hb d_R_made_54 hl (by decide) rfl (fun ls hl => ?_)
        have hl : lv_has ls 7 [(6, .int (nI i)), (5, .ref pp), (0, .ref (ad 18)), (1, .ref x.tpA), (2, .ref nq), (3, .ref vq), (4, .int (nI i))] := hl
        have L56 : ∀ (k9 : Nat) (pz : Nat) (gn : Nat → Option Nat) (gv : Nat → Option Nat) (pi : pz ≤ i) (en : gn = shU fn pz i) (ev : gv = shU fv pz i) (ip : insP (rawL x.tape x.rS x.rE x.rV i).1 (srtL x.tape x.rS x.rE x.rV i) pz = insP (rawL x.tape x.rS x.rE x.rV i).1 (srtL x.tape x.rS x.rE x.rV i) i) (hk9 : pz = k9), ∀ (H : Heap) (locs : List Loc) (ls : Array Slot) (hP : va_P D vwCl ([(vq, .inl (dA 6, x.rlab, .inr (.inr (.inr (.inr gv)))))] ++ ([(nq, .inl (dA 6, x.rlab, .inr (.inr (.inr (.inr gn)))))] ++ (VW dA h ad (VS.s_pl x pl12)))) H) (hD : va_D A ([(vq, .inl (dA 6, x.rlab, .inr (.inr (.inr (.inr gv)))))] ++ ([(nq, .inl (dA 6, x.rlab, .inr (.inr (.inr (.inr gn)))))] ++ (VW dA h ad (VS.s_pl x pl12))))) (hS : va_S A s.heap H locs) (hl : lv_has ls 7 [(6, .int (nI pz)), (5, .ref pp), (0, .ref (ad 18)), (1, .ref x.tpA), (2, .ref nq), (3, .ref vq), (4, .int (nI i))]), W p l e ({ frames := 6, cells := 32, slots := 930, locals := 132 } : Room) s m ([.ref (ad 18), .ref x.tpA] : List Value).toArray below meth c H locs (2 + 4 * i + 1 + 1) (2 * x.rlab + 50 * i + 1 + ((x.rE i) - (x.rS i))) (MQ below (va_Qr (fun (_ : VS) => True) (fun (u9 : VS) (r9 : Nat) t9 => (x.pk u9 ∧ isSer dA u9.pl r9 (srtL x.tape x.rS x.rE x.rV x.rlab)) ∧ bW D A (VW dA h ad u9) t9) A) ([.ref (ad 18), .ref x.tpA] : List Value).toArray s 32 930 A) (F0 m 56 ls []) := by
          intro k9
          induction k9 using Nat.strongRecOn with
          | ind k9 ih56 =>
            intro pz gn gv pi en ev ip hk9 H locs ls hP hD hS hl
            refine lv_iload hx hb d_R_made_56 (lv_at hl 0 rfl) ?_
            refine lv_if_le hx hb d_R_made_58 (tgt := 101) rfl (fun g13 => ?_) (fun g13 => ?_)
            · have g13 := (nI_leI (a := pz) (b := 0) (by omega) (by decide)).mp g13
              refine lv_aload_n hx hb d_R_made_101 rfl (lv_at hl 4 rfl) ?_
              refine lv_iload hx hb d_R_made_102 (lv_at hl 0 rfl) ?_
              refine lv_aload hx hb d_R_made_104 (lv_at hl 1 rfl) ?_
              obtain ⟨qp14, ep15⟩ := List.getElem?_of_mem (show ((pp, .inr (10, [.ref bq])) : Nat × va_E) ∈ [(vq, .inl (dA 6, x.rlab, .inr (.inr (.inr (.inr gv)))))] ++ ([(nq, .inl (dA 6, x.rlab, .inr (.inr (.inr (.inr gn)))))] ++ (VW dA h ad (VS.s_pl x pl12))) from (List.mem_append_right _ (List.mem_append_right _ (plm kpp))))
              refine nqst (r := ("SeriesVault$Word", TW, 1)) (f := gn) (n := x.rlab) hx hb hK hP hD hS (1) 6 (qp14) 10 rfl rfl ep15 rfl (pz) (by omega) (by omega) d_R_made_106 (fun H locs hP hD hS => ?_)
              have hP : va_P D vwCl ([(vq, .inl (dA 6, x.rlab, .inr (.inr (.inr (.inr gv)))))] ++ ([(nq, .inl (dA 6, x.rlab, .inr (.inr (.inr (.inr (va_up gn pz (some pp)))))))] ++ (VW dA h ad (VS.s_pl x pl12)))) H := hP
              have hD : va_D A ([(vq, .inl (dA 6, x.rlab, .inr (.inr (.inr (.inr gv)))))] ++ ([(nq, .inl (dA 6, x.rlab, .inr (.inr (.inr (.inr (va_up gn pz (some pp)))))))] ++ (VW dA h ad (VS.s_pl x pl12)))) := hD
              refine lv_aload_n hx hb d_R_made_107 rfl (lv_at hl 5 rfl) ?_
              refine lv_iload hx hb d_R_made_108 (lv_at hl 0 rfl) ?_
              refine nOf hx hb hown hE hK hP hD hS hA (ci := 10) rfl layW tyW tokW w1310 w856 w1281 (fs := [.null]) dfW (show (2 + 4 * i + 1 + 1) + 1 ≤ 32 by omega) (show (2 * x.rlab + 50 * i + 1 + ((x.rE i) - (x.rS i))) + 1 ≤ 930 by omega) d_R_made_110 (fun pp2 H hP hD hS => ?_)
              have hP : va_P D vwCl ([(pp2, .inr (10, [.null]))] ++ ([(vq, .inl (dA 6, x.rlab, .inr (.inr (.inr (.inr gv)))))] ++ ([(nq, .inl (dA 6, x.rlab, .inr (.inr (.inr (.inr (va_up gn pz (some pp)))))))] ++ (VW dA h ad (VS.s_pl x pl12))))) H := hP
              have hD : va_D A ([(pp2, .inr (10, [.null]))] ++ ([(vq, .inl (dA 6, x.rlab, .inr (.inr (.inr (.inr gv)))))] ++ ([(nq, .inl (dA 6, x.rlab, .inr (.inr (.inr (.inr (va_up gn pz (some pp)))))))] ++ (VW dA h ad (VS.s_pl x pl12))))) := hD
              refine lv_dup hx hb d_R_made_113 rfl ?_
              refine lv_aload_n hx hb d_R_made_114 rfl (lv_at hl 3 rfl) ?_
              refine lv_aload_n hx hb d_R_made_115 rfl (lv_at hl 2 rfl) ?_
              refine gF (v := .ref (ad 20)) hx hb hown hE hK hP 35 rfl rfl layR 1 (by decide) w207 rfl d_R_made_116 ?_
              refine lv_iload hx hb d_R_made_119 (lv_at hl 6 rfl) ?_
              refine nild (f := (fun z9 => nI (x.rE z9))) (n := 6) hx hb hK hP (37) 1 rfl rfl (i) (by omega) (by decide) d_R_made_121 ?_
              refine lv_iconst (v := 1) hx hb d_R_made_122 (by decide) ?_
              refine lv_iadd hx hb d_R_made_123 (tpi (y := nI (x.rE i + 1)) (nI_add (x.rE i) (1)) ?_)
              refine lv_aload_n hx hb d_R_made_124 rfl (lv_at hl 2 rfl) ?_
              refine gF (v := .ref (ad 21)) hx hb hown hE hK hP 35 rfl rfl layR 2 (by decide) w208 rfl d_R_made_125 ?_
              refine lv_iload hx hb d_R_made_128 (lv_at hl 6 rfl) ?_
              refine nild (f := (fun z9 => nI (x.rV z9))) (n := 6) hx hb hK hP (38) 1 rfl rfl (i) (by omega) (by decide) d_R_made_130 ?_
              refine jkV (wr := []) (rnI (As := [.ref x.tpA, .int (nI (x.rE i + 1)), .int (nI (x.rV i))]) (rest := [.ref pp2, .int (nI pz), .ref vq]) hx hb hml hown hE hK (hN _ _ hS) hP hD (v_Winit l D dA H.size ([(vq, .inl (dA 6, x.rlab, .inr (.inr (.inr (.inr gv)))))] ++ ([(nq, .inl (dA 6, x.rlab, .inr (.inr (.inr (.inr (va_up gn pz (some pp)))))))] ++ (VW dA h ad (VS.s_pl x pl12)))) pp2 x.tpA x.tpN x.tape (x.rE i + 1) (x.rV i) (List.mem_of_getElem? (i := 3) rfl) hby (show (x.rE i + 1) ≤ (x.rV i) from by omega) (show (x.rV i) ≤ x.tpN from by omega) (show x.tpN ≤ 131072 from by omega)) w1308 w1316 w1309 w1281 rfl rfl rfl ⟨⟨by decide, by decide⟩, rfl⟩ ⟨(Nat.le_of_ble_eq_true rfl), (Nat.le_of_ble_eq_true rfl)⟩ rfl hl.1 rfl (Nat.le_of_ble_eq_true rfl) d_R_made_131 ⟨(show 2 + 4 * i + 1 + 1 + 1 + 1 ≤ 32 by omega), (show 2 * x.rlab + 50 * i + 1 + ((x.rE i) - (x.rS i)) + 1 + ((x.rV i) - (x.rE i + 1)) ≤ 930 by omega)⟩) hP hD hS hA (fun u17 H locs hp9 hP hD hS => ?_)
              obtain ⟨bq2, g2⟩ := u17
              have hP : va_P D vwCl ([(bq2, .inl (dA 0, (x.rV i) - (x.rE i + 1), .inl g2))] ++ ([(pp2, .inr (10, [.ref bq2]))] ++ ([(vq, .inl (dA 6, x.rlab, .inr (.inr (.inr (.inr gv)))))] ++ ([(nq, .inl (dA 6, x.rlab, .inr (.inr (.inr (.inr (va_up gn pz (some pp)))))))] ++ (VW dA h ad (VS.s_pl x pl12)))))) H := hP
              have hD : va_D A ([(bq2, .inl (dA 0, (x.rV i) - (x.rE i + 1), .inl g2))] ++ ([(pp2, .inr (10, [.ref bq2]))] ++ ([(vq, .inl (dA 6, x.rlab, .inr (.inr (.inr (.inr gv)))))] ++ ([(nq, .inl (dA 6, x.rlab, .inr (.inr (.inr (.inr (va_up gn pz (some pp)))))))] ++ (VW dA h ad (VS.s_pl x pl12)))))) := hD
              obtain ⟨f_y_18, f_hg_19⟩ := hp9
              refine nqst (r := ("SeriesVault$Word", TW, 1)) (f := gv) (n := x.rlab) hx hb hK hP hD hS (2) 6 (1) 10 rfl rfl rfl rfl (pz) (by omega) (by omega) d_R_made_134 (fun H locs hP hD hS => ?_)
              have hP : va_P D vwCl ([(bq2, .inl (dA 0, (x.rV i) - (x.rE i + 1), .inl g2))] ++ ([(pp2, .inr (10, [.ref bq2]))] ++ ([(vq, .inl (dA 6, x.rlab, .inr (.inr (.inr (.inr (va_up gv pz (some pp2)))))))] ++ ([(nq, .inl (dA 6, x.rlab, .inr (.inr (.inr (.inr (va_up gn pz (some pp)))))))] ++ (VW dA h ad (VS.s_pl x pl12)))))) H := hP
              have hD : va_D A ([(bq2, .inl (dA 0, (x.rV i) - (x.rE i + 1), .inl g2))] ++ ([(pp2, .inr (10, [.ref bq2]))] ++ ([(vq, .inl (dA 6, x.rlab, .inr (.inr (.inr (.inr (va_up gv pz (some pp2)))))))] ++ ([(nq, .inl (dA 6, x.rlab, .inr (.inr (.inr (.inr (va_up gn pz (some pp)))))))] ++ (VW dA h ad (VS.s_pl x pl12)))))) := hD
              have hP := pmP (show List.Perm (α := Nat × va_E) ([(bq2, .inl (dA 0, (x.rV i) - (x.rE i + 1), .inl g2))] ++ ([(pp2, .inr (10, [.ref bq2]))] ++ ([(vq, .inl (dA 6, x.rlab, .inr (.inr (.inr (.inr (va_up gv pz (some pp2)))))))] ++ ([(nq, .inl (dA 6, x.rlab, .inr (.inr (.inr (.inr (va_up gn pz (some pp)))))))] ++ (VW dA h ad (VS.s_pl x pl12)))))) ([(vq, .inl (dA 6, x.rlab, .inr (.inr (.inr (.inr (va_up gv pz (some pp2)))))))] ++ ([(bq2, .inl (dA 0, (x.rV i) - (x.rE i + 1), .inl g2))] ++ ([(pp2, .inr (10, [.ref bq2]))] ++ ([(nq, .inl (dA 6, x.rlab, .inr (.inr (.inr (.inr (va_up gn pz (some pp)))))))] ++ (VW dA h ad (VS.s_pl x pl12)))))) from (List.Perm.append_left ([(bq2, .inl (dA 0, (x.rV i) - (x.rE i + 1), .inl g2))]) (List.perm_append_comm_assoc ([(pp2, .inr (10, [.ref bq2]))]) ([(vq, .inl (dA 6, x.rlab, .inr (.inr (.inr (.inr (va_up gv pz (some pp2)))))))]) ([(nq, .inl (dA 6, x.rlab, .inr (.inr (.inr (.inr (va_up gn pz (some pp)))))))] ++ (VW dA h ad (VS.s_pl x pl12))))).trans (List.perm_append_comm_assoc ([(bq2, .inl (dA 0, (x.rV i) - (x.rE i + 1), .inl g2))]) ([(vq, .inl (dA 6, x.rlab, .inr (.inr (.inr (.inr (va_up gv pz (some pp2)))))))]) ([(pp2, .inr (10, [.ref bq2]))] ++ ([(nq, .inl (dA 6, x.rlab, .inr (.inr (.inr (.inr (va_up gn pz (some pp)))))))] ++ (VW dA h ad (VS.s_pl x pl12)))))) hP
              have hD := pmD (show List.Perm (α := Nat × va_E) ([(bq2, .inl (dA 0, (x.rV i) - (x.rE i + 1), .inl g2))] ++ ([(pp2, .inr (10, [.ref bq2]))] ++ ([(vq, .inl (dA 6, x.rlab, .inr (.inr (.inr (.inr (va_up gv pz (some pp2)))))))] ++ ([(nq, .inl (dA 6, x.rlab, .inr (.inr (.inr (.inr (va_up gn pz (some pp)))))))] ++ (VW dA h ad (VS.s_pl x pl12)))))) ([(vq, .inl (dA 6, x.rlab, .inr (.inr (.inr (.inr (va_up gv pz (some pp2)))))))] ++ ([(bq2, .inl (dA 0, (x.rV i) - (x.rE i + 1), .inl g2))] ++ ([(pp2, .inr (10, [.ref bq2]))] ++ ([(nq, .inl (dA 6, x.rlab, .inr (.inr (.inr (.inr (va_up gn pz (some pp)))))))] ++ (VW dA h ad (VS.s_pl x pl12)))))) from (List.Perm.append_left ([(bq2, .inl (dA 0, (x.rV i) - (x.rE i + 1), .inl g2))]) (List.perm_append_comm_assoc ([(pp2, .inr (10, [.ref bq2]))]) ([(vq, .inl (dA 6, x.rlab, .inr (.inr (.inr (.inr (va_up gv pz (some pp2)))))))]) ([(nq, .inl (dA 6, x.rlab, .inr (.inr (.inr (.inr (va_up gn pz (some pp)))))))] ++ (VW dA h ad (VS.s_pl x pl12))))).trans (List.perm_append_comm_assoc ([(bq2, .inl (dA 0, (x.rV i) - (x.rE i + 1), .inl g2))]) ([(vq, .inl (dA 6, x.rlab, .inr (.inr (.inr (.inr (va_up gv pz (some pp2)))))))]) ([(pp2, .inr (10, [.ref bq2]))] ++ ([(nq, .inl (dA 6, x.rlab, .inr (.inr (.inr (.inr (va_up gn pz (some pp)))))))] ++ (VW dA h ad (VS.s_pl x pl12)))))) hD
              have hP := pmP (show List.Perm (α := Nat × va_E) ([(vq, .inl (dA 6, x.rlab, .inr (.inr (.inr (.inr (va_up gv pz (some pp2)))))))] ++ ([(bq2, .inl (dA 0, (x.rV i) - (x.rE i + 1), .inl g2))] ++ ([(pp2, .inr (10, [.ref bq2]))] ++ ([(nq, .inl (dA 6, x.rlab, .inr (.inr (.inr (.inr (va_up gn pz (some pp)))))))] ++ (VW dA h ad (VS.s_pl x pl12)))))) ([(vq, .inl (dA 6, x.rlab, .inr (.inr (.inr (.inr (va_up gv pz (some pp2)))))))] ++ ([(nq, .inl (dA 6, x.rlab, .inr (.inr (.inr (.inr (va_up gn pz (some pp)))))))] ++ ([(bq2, .inl (dA 0, (x.rV i) - (x.rE i + 1), .inl g2))] ++ ([(pp2, .inr (10, [.ref bq2]))] ++ (VW dA h ad (VS.s_pl x pl12)))))) from List.Perm.append_left ([(vq, .inl (dA 6, x.rlab, .inr (.inr (.inr (.inr (va_up gv pz (some pp2)))))))]) ((List.Perm.append_left ([(bq2, .inl (dA 0, (x.rV i) - (x.rE i + 1), .inl g2))]) (List.perm_append_comm_assoc ([(pp2, .inr (10, [.ref bq2]))]) ([(nq, .inl (dA 6, x.rlab, .inr (.inr (.inr (.inr (va_up gn pz (some pp)))))))]) (VW dA h ad (VS.s_pl x pl12)))).trans (List.perm_append_comm_assoc ([(bq2, .inl (dA 0, (x.rV i) - (x.rE i + 1), .inl g2))]) ([(nq, .inl (dA 6, x.rlab, .inr (.inr (.inr (.inr (va_up gn pz (some pp)))))))]) ([(pp2, .inr (10, [.ref bq2]))] ++ (VW dA h ad (VS.s_pl x pl12)))))) hP
              have hD := pmD (show List.Perm (α := Nat × va_E) ([(vq, .inl (dA 6, x.rlab, .inr (.inr (.inr (.inr (va_up gv pz (some pp2)))))))] ++ ([(bq2, .inl (dA 0, (x.rV i) - (x.rE i + 1), .inl g2))] ++ ([(pp2, .inr (10, [.ref bq2]))] ++ ([(nq, .inl (dA 6, x.rlab, .inr (.inr (.inr (.inr (va_up gn pz (some pp)))))))] ++ (VW dA h ad (VS.s_pl x pl12)))))) ([(vq, .inl (dA 6, x.rlab, .inr (.inr (.inr (.inr (va_up gv pz (some pp2)))))))] ++ ([(nq, .inl (dA 6, x.rlab, .inr (.inr (.inr (.inr (va_up gn pz (some pp)))))))] ++ ([(bq2, .inl (dA 0, (x.rV i) - (x.rE i + 1), .inl g2))] ++ ([(pp2, .inr (10, [.ref bq2]))] ++ (VW dA h ad (VS.s_pl x pl12)))))) from List.Perm.append_left ([(vq, .inl (dA 6, x.rlab, .inr (.inr (.inr (.inr (va_up gv pz (some pp2)))))))]) ((List.Perm.append_left ([(bq2, .inl (dA 0, (x.rV i) - (x.rE i + 1), .inl g2))]) (List.perm_append_comm_assoc ([(pp2, .inr (10, [.ref bq2]))]) ([(nq, .inl (dA 6, x.rlab, .inr (.inr (.inr (.inr (va_up gn pz (some pp)))))))]) (VW dA h ad (VS.s_pl x pl12)))).trans (List.perm_append_comm_assoc ([(bq2, .inl (dA 0, (x.rV i) - (x.rE i + 1), .inl g2))]) ([(nq, .inl (dA 6, x.rlab, .inr (.inr (.inr (.inr (va_up gn pz (some pp)))))))]) ([(pp2, .inr (10, [.ref bq2]))] ++ (VW dA h ad (VS.s_pl x pl12)))))) hD
              have hP : va_P D vwCl ([(vq, .inl (dA 6, x.rlab, .inr (.inr (.inr (.inr (va_up gv pz (some pp2)))))))] ++ ([(nq, .inl (dA 6, x.rlab, .inr (.inr (.inr (.inr (va_up gn pz (some pp)))))))] ++ (VW dA h ad (VS.s_pl x (pl12 ++ ([(bq2, .inl (dA 0, (x.rV i) - (x.rE i + 1), .inl g2))] ++ ([(pp2, .inr (10, [.ref bq2]))]))))))) H := pmP (show List.Perm (α := Nat × va_E) ([(vq, .inl (dA 6, x.rlab, .inr (.inr (.inr (.inr (va_up gv pz (some pp2)))))))] ++ ([(nq, .inl (dA 6, x.rlab, .inr (.inr (.inr (.inr (va_up gn pz (some pp)))))))] ++ ([(bq2, .inl (dA 0, (x.rV i) - (x.rE i + 1), .inl g2))] ++ ([(pp2, .inr (10, [.ref bq2]))] ++ (VW dA h ad (VS.s_pl x pl12)))))) ([(vq, .inl (dA 6, x.rlab, .inr (.inr (.inr (.inr (va_up gv pz (some pp2)))))))] ++ ([(nq, .inl (dA 6, x.rlab, .inr (.inr (.inr (.inr (va_up gn pz (some pp)))))))] ++ (VW dA h ad (VS.s_pl x (pl12 ++ ([(bq2, .inl (dA 0, (x.rV i) - (x.rE i + 1), .inl g2))] ++ ([(pp2, .inr (10, [.ref bq2]))]))))))) from List.Perm.append_left ([(vq, .inl (dA 6, x.rlab, .inr (.inr (.inr (.inr (va_up gv pz (some pp2)))))))]) (List.Perm.append_left ([(nq, .inl (dA 6, x.rlab, .inr (.inr (.inr (.inr (va_up gn pz (some pp)))))))]) (plP2 (dA := dA) (h := h) (ad := ad) (VS.s_pl x pl12) ([(bq2, .inl (dA 0, (x.rV i) - (x.rE i + 1), .inl g2))]) ([(pp2, .inr (10, [.ref bq2]))])))) hP
              have hD : va_D A ([(vq, .inl (dA 6, x.rlab, .inr (.inr (.inr (.inr (va_up gv pz (some pp2)))))))] ++ ([(nq, .inl (dA 6, x.rlab, .inr (.inr (.inr (.inr (va_up gn pz (some pp)))))))] ++ (VW dA h ad (VS.s_pl x (pl12 ++ ([(bq2, .inl (dA 0, (x.rV i) - (x.rE i + 1), .inl g2))] ++ ([(pp2, .inr (10, [.ref bq2]))]))))))) := pmD (show List.Perm (α := Nat × va_E) ([(vq, .inl (dA 6, x.rlab, .inr (.inr (.inr (.inr (va_up gv pz (some pp2)))))))] ++ ([(nq, .inl (dA 6, x.rlab, .inr (.inr (.inr (.inr (va_up gn pz (some pp)))))))] ++ ([(bq2, .inl (dA 0, (x.rV i) - (x.rE i + 1), .inl g2))] ++ ([(pp2, .inr (10, [.ref bq2]))] ++ (VW dA h ad (VS.s_pl x pl12)))))) ([(vq, .inl (dA 6, x.rlab, .inr (.inr (.inr (.inr (va_up gv pz (some pp2)))))))] ++ ([(nq, .inl (dA 6, x.rlab, .inr (.inr (.inr (.inr (va_up gn pz (some pp)))))))] ++ (VW dA h ad (VS.s_pl x (pl12 ++ ([(bq2, .inl (dA 0, (x.rV i) - (x.rE i + 1), .inl g2))] ++ ([(pp2, .inr (10, [.ref bq2]))]))))))) from List.Perm.append_left ([(vq, .inl (dA 6, x.rlab, .inr (.inr (.inr (.inr (va_up gv pz (some pp2)))))))]) (List.Perm.append_left ([(nq, .inl (dA 6, x.rlab, .inr (.inr (.inr (.inr (va_up gn pz (some pp)))))))]) (plP2 (dA := dA) (h := h) (ad := ad) (VS.s_pl x pl12) ([(bq2, .inl (dA 0, (x.rV i) - (x.rE i + 1), .inl g2))]) ([(pp2, .inr (10, [.ref bq2]))])))) hD
              obtain ⟨pl20, e_pl20⟩ : ∃ z, z = pl12 ++ ([(bq2, .inl (dA 0, (x.rV i) - (x.rE i + 1), .inl g2))] ++ ([(pp2, .inr (10, [.ref bq2]))])) := ⟨_, rfl⟩
              rw [← e_pl20] at hP hD
              have s_pl20 : ∀ c, c ∈ pl12 → c ∈ pl20 := by rw [e_pl20]; exact fun _ hm => List.mem_append_left _ hm
              have t_pl20_0 : ((bq2, .inl (dA 0, (x.rV i) - (x.rE i + 1), .inl g2)) : Nat × va_E) ∈ pl20 := by rw [e_pl20]; exact List.mem_append_right _ (List.mem_of_getElem? (i := 0) rfl)
              have t_pl20_1 : ((pp2, .inr (10, [.ref bq2])) : Nat × va_E) ∈ pl20 := by rw [e_pl20]; exact List.mem_append_right _ (List.mem_of_getElem? (i := 1) rfl)
              have hP : va_P D vwCl ([(vq, .inl (dA 6, x.rlab, .inr (.inr (.inr (.inr (va_up gv pz (some pp2)))))))] ++ ([(nq, .inl (dA 6, x.rlab, .inr (.inr (.inr (.inr (va_up gn pz (some pp)))))))] ++ (VW dA h ad (VS.s_pl x pl20)))) H := hP
              have hD : va_D A ([(vq, .inl (dA 6, x.rlab, .inr (.inr (.inr (.inr (va_up gv pz (some pp2)))))))] ++ ([(nq, .inl (dA 6, x.rlab, .inr (.inr (.inr (.inr (va_up gn pz (some pp)))))))] ++ (VW dA h ad (VS.s_pl x pl20)))) := hD
              have wpp2 : isWo dA pl20 pp2 (rawL x.tape x.rS x.rE x.rV i).2 := isWo_n t_pl20_1 t_pl20_0 f_y_18 (seg_len _ _ _) (fun k hk => (f_hg_19 k hk).trans (seg_get _ hk).symm)
              have ip0 : insP (rawL x.tape x.rS x.rE x.rV i).1 (srtL x.tape x.rS x.rE x.rV i) (srtL x.tape x.rS x.rE x.rV i).length = pz := by rw [srtL_len, ← ip]; exact insP_n (Or.inl (by omega))
              have hel2 : lbW dA pl20 (va_up gn pz (some pp)) (va_up gv pz (some pp2)) (srtL x.tape x.rS x.rE x.rV (i + 1)) := by
                have h9 := lbW_ins (l := (rawL x.tape x.rS x.rE x.rV i)) (lbW_m s_pl20 hel1) (isWo_m s_pl20 wpp) wpp2
                rw [ip0, srtL_len] at h9
                rw [en, ev]
                exact h9
              have hs2 : ∀ c, c ∈ x.pl → c ∈ pl20 := fun c hc => s_pl20 c (hs1 c hc)
              refine lv_iinc (k := 6) (v := nI (i + 1)) hx hb d_R_made_135 hl rfl (iincN (i) 1 1 (by decide)) (by decide) rfl (fun ls hl => ?_)
              have hl : lv_has ls 7 [(4, .int (nI (i + 1))), (6, .int (nI pz)), (5, .ref pp), (0, .ref (ad 18)), (1, .ref x.tpA), (2, .ref nq), (3, .ref vq)] := hl
              refine lv_goto hx hb d_R_made_138 (tgt := 19) rfl ?_
              refine W.widen (k := 2 + 4 * (i + 1)) (n := 2 * x.rlab + 50 * (i + 1)) (show 2 + 4 * i + 1 + 1 + 1 + 1 ≤ 2 + 4 * (i + 1) from by omega) (show 2 * x.rlab + 50 * i + 1 + ((x.rE i) - (x.rS i)) + 1 + ((x.rV i) - (x.rE i + 1)) ≤ 2 * x.rlab + 50 * (i + 1) from by omega) ?_
              exact ih19 _ (by omega) (i + 1) (va_up gn pz (some pp)) (va_up gv pz (some pp2)) pl20 (by omega) hs2 hel2 rfl H _ ls hP hD hS (lv_sub hl [3, 4, 5, 6, 0] rfl)
            · have g13 := mt (nI_leI (a := pz) (b := 0) (by omega) (by decide)).mpr g13
              obtain ⟨p1, q1, e1, w1, e2, w2⟩ := hel1 (pz - 1) (by rw [srtL_len]; omega)
              have w1c := w1
              have w2c := w2
              obtain ⟨bb1, ff1, kk1, kk2, yy1, hff1⟩ := w1c
              obtain ⟨bb2, ff2, kk3, kk4, yy2, hff2⟩ := w2c
              have sk := srt_ok (f := x.tape) h5 (i := i) (by omega) (pz - 1) (by omega)
              refine lv_aload_n hx hb d_R_made_61 rfl (lv_at hl 4 rfl) ?_
              refine lv_iload hx hb d_R_made_62 (lv_at hl 0 rfl) ?_
              refine lv_iconst (v := 1) hx hb d_R_made_64 (by decide) ?_
              refine lv_isub hx hb d_R_made_65 (tpi (y := nI (pz - 1)) (pk_sub (a := pz) (b := 1) (by omega)) ?_)
              refine nqld (f := gn) (n := x.rlab) hx hb hK hP (1) 6 rfl rfl (pz - 1) (by omega) (by omega) (by rw [en]; exact (shU_lt fn (by omega)).trans e1) d_R_made_66 ?_
              refine lv_aload hx hb d_R_made_67 (lv_at hl 1 rfl) ?_
              obtain ⟨qp21, ep22⟩ := List.getElem?_of_mem (show ((p1, .inr (10, [.ref bb1])) : Nat × va_E) ∈ [(vq, .inl (dA 6, x.rlab, .inr (.inr (.inr (.inr gv)))))] ++ ([(nq, .inl (dA 6, x.rlab, .inr (.inr (.inr (.inr gn)))))] ++ (VW dA h ad (VS.s_pl x pl12))) from (List.mem_append_right _ (List.mem_append_right _ (plm kk1))))
              refine jkI (wr := []) (rnV (As := [.ref pp]) (rest := []) hx hb hml hown hE hK (hN _ _ hS) hP hD (v_Wcmp l D dA H.size ([(vq, .inl (dA 6, x.rlab, .inr (.inr (.inr (.inr gv)))))] ++ ([(nq, .inl (dA 6, x.rlab, .inr (.inr (.inr (.inr gn)))))] ++ (VW dA h ad (VS.s_pl x pl12)))) p1 ((lab (srtL x.tape x.rS x.rE x.rV i) (pz - 1)).1) pp ((rawL x.tape x.rS x.rE x.rV i).1) (isWo_m (fun _ hm => (List.mem_append_right _ (List.mem_append_right _ (plm hm)))) w1) (show (lab (srtL x.tape x.rS x.rE x.rV i) (pz - 1)).1.length ≤ 65536 by omega) (isWo_m (fun _ hm => (List.mem_append_right _ (List.mem_append_right _ (plm hm)))) wpp) (show (seg x.tape (x.rS i) (x.rE i)).length ≤ 65536 by rw [seg_len]; omega)) (q0 := qp21) ep22 rfl w1318 w1317 w1319 w1320 w1281 rfl rfl ⟨⟨by decide, by decide⟩, rfl⟩ ⟨(Nat.le_of_ble_eq_true rfl), (Nat.le_of_ble_eq_true rfl)⟩ rfl hl.1 rfl (Nat.le_of_ble_eq_true rfl) d_R_made_69 ⟨(show 2 + 4 * i + 1 + 1 + 0 ≤ 32 by omega), (show 2 * x.rlab + 50 * i + 1 + ((x.rE i) - (x.rS i)) + 0 ≤ 930 by omega)⟩) hP hD hS hA (fun r23 u24 H locs hp9 hP hD hS => ?_)
              have hP : va_P D vwCl ([(vq, .inl (dA 6, x.rlab, .inr (.inr (.inr (.inr gv)))))] ++ ([(nq, .inl (dA 6, x.rlab, .inr (.inr (.inr (.inr gn)))))] ++ (VW dA h ad (VS.s_pl x pl12)))) H := hP
              have hD : va_D A ([(vq, .inl (dA 6, x.rlab, .inr (.inr (.inr (.inr gv)))))] ++ ([(nq, .inl (dA 6, x.rlab, .inr (.inr (.inr (.inr gn)))))] ++ (VW dA h ad (VS.s_pl x pl12)))) := hD
              replace hp9 : cmpW ((lab (srtL x.tape x.rS x.rE x.rV i) (pz - 1)).1) ((rawL x.tape x.rS x.rE x.rV i).1) = r23 := Eq.symm hp9
              subst hp9
              refine lv_if_le hx hb d_R_made_72 (tgt := 101) rfl (fun g25 => ?_) (fun g25 => ?_)
              · have g25 := g25
                refine lv_aload_n hx hb d_R_made_101 rfl (lv_at hl 4 rfl) ?_
                refine lv_iload hx hb d_R_made_102 (lv_at hl 0 rfl) ?_
                refine lv_aload hx hb d_R_made_104 (lv_at hl 1 rfl) ?_
                obtain ⟨qp26, ep27⟩ := List.getElem?_of_mem (show ((pp, .inr (10, [.ref bq])) : Nat × va_E) ∈ [(vq, .inl (dA 6, x.rlab, .inr (.inr (.inr (.inr gv)))))] ++ ([(nq, .inl (dA 6, x.rlab, .inr (.inr (.inr (.inr gn)))))] ++ (VW dA h ad (VS.s_pl x pl12))) from (List.mem_append_right _ (List.mem_append_right _ (plm kpp))))
                refine nqst (r := ("SeriesVault$Word", TW, 1)) (f := gn) (n := x.rlab) hx hb hK hP hD hS (1) 6 (qp26) 10 rfl rfl ep27 rfl (pz) (by omega) (by omega) d_R_made_106 (fun H locs hP hD hS => ?_)
                have hP : va_P D vwCl ([(vq, .inl (dA 6, x.rlab, .inr (.inr (.inr (.inr gv)))))] ++ ([(nq, .inl (dA 6, x.rlab, .inr (.inr (.inr (.inr (va_up gn pz (some pp)))))))] ++ (VW dA h ad (VS.s_pl x pl12)))) H := hP
                have hD : va_D A ([(vq, .inl (dA 6, x.rlab, .inr (.inr (.inr (.inr gv)))))] ++ ([(nq, .inl (dA 6, x.rlab, .inr (.inr (.inr (.inr (va_up gn pz (some pp)))))))] ++ (VW dA h ad (VS.s_pl x pl12)))) := hD
                refine lv_aload_n hx hb d_R_made_107 rfl (lv_at hl 5 rfl) ?_
                refine lv_iload hx hb d_R_made_108 (lv_at hl 0 rfl) ?_
                refine nOf hx hb hown hE hK hP hD hS hA (ci := 10) rfl layW tyW tokW w1310 w856 w1281 (fs := [.null]) dfW (show (2 + 4 * i + 1 + 1 + 0) + 1 ≤ 32 by omega) (show (2 * x.rlab + 50 * i + 1 + ((x.rE i) - (x.rS i)) + 0) + 1 ≤ 930 by omega) d_R_made_110 (fun pp2 H hP hD hS => ?_)
                have hP : va_P D vwCl ([(pp2, .inr (10, [.null]))] ++ ([(vq, .inl (dA 6, x.rlab, .inr (.inr (.inr (.inr gv)))))] ++ ([(nq, .inl (dA 6, x.rlab, .inr (.inr (.inr (.inr (va_up gn pz (some pp)))))))] ++ (VW dA h ad (VS.s_pl x pl12))))) H := hP
                have hD : va_D A ([(pp2, .inr (10, [.null]))] ++ ([(vq, .inl (dA 6, x.rlab, .inr (.inr (.inr (.inr gv)))))] ++ ([(nq, .inl (dA 6, x.rlab, .inr (.inr (.inr (.inr (va_up gn pz (some pp)))))))] ++ (VW dA h ad (VS.s_pl x pl12))))) := hD
                refine lv_dup hx hb d_R_made_113 rfl ?_
                refine lv_aload_n hx hb d_R_made_114 rfl (lv_at hl 3 rfl) ?_
                refine lv_aload_n hx hb d_R_made_115 rfl (lv_at hl 2 rfl) ?_
                refine gF (v := .ref (ad 20)) hx hb hown hE hK hP 35 rfl rfl layR 1 (by decide) w207 rfl d_R_made_116 ?_
                refine lv_iload hx hb d_R_made_119 (lv_at hl 6 rfl) ?_
                refine nild (f := (fun z9 => nI (x.rE z9))) (n := 6) hx hb hK hP (37) 1 rfl rfl (i) (by omega) (by decide) d_R_made_121 ?_
                refine lv_iconst (v := 1) hx hb d_R_made_122 (by decide) ?_
                refine lv_iadd hx hb d_R_made_123 (tpi (y := nI (x.rE i + 1)) (nI_add (x.rE i) (1)) ?_)
                refine lv_aload_n hx hb d_R_made_124 rfl (lv_at hl 2 rfl) ?_
                refine gF (v := .ref (ad 21)) hx hb hown hE hK hP 35 rfl rfl layR 2 (by decide) w208 rfl d_R_made_125 ?_
                refine lv_iload hx hb d_R_made_128 (lv_at hl 6 rfl) ?_
                refine nild (f := (fun z9 => nI (x.rV z9))) (n := 6) hx hb hK hP (38) 1 rfl rfl (i) (by omega) (by decide) d_R_made_130 ?_
                refine jkV (wr := []) (rnI (As := [.ref x.tpA, .int (nI (x.rE i + 1)), .int (nI (x.rV i))]) (rest := [.ref pp2, .int (nI pz), .ref vq]) hx hb hml hown hE hK (hN _ _ hS) hP hD (v_Winit l D dA H.size ([(vq, .inl (dA 6, x.rlab, .inr (.inr (.inr (.inr gv)))))] ++ ([(nq, .inl (dA 6, x.rlab, .inr (.inr (.inr (.inr (va_up gn pz (some pp)))))))] ++ (VW dA h ad (VS.s_pl x pl12)))) pp2 x.tpA x.tpN x.tape (x.rE i + 1) (x.rV i) (List.mem_of_getElem? (i := 3) rfl) hby (show (x.rE i + 1) ≤ (x.rV i) from by omega) (show (x.rV i) ≤ x.tpN from by omega) (show x.tpN ≤ 131072 from by omega)) w1308 w1316 w1309 w1281 rfl rfl rfl ⟨⟨by decide, by decide⟩, rfl⟩ ⟨(Nat.le_of_ble_eq_true rfl), (Nat.le_of_ble_eq_true rfl)⟩ rfl hl.1 rfl (Nat.le_of_ble_eq_true rfl) d_R_made_131 ⟨(show 2 + 4 * i + 1 + 1 + 0 + 1 + 1 ≤ 32 by omega), (show 2 * x.rlab + 50 * i + 1 + ((x.rE i) - (x.rS i)) + 0 + 1 + ((x.rV i) - (x.rE i + 1)) ≤ 930 by omega)⟩) hP hD hS hA (fun u29 H locs hp9 hP hD hS => ?_)
                obtain ⟨bq2, g2⟩ := u29
                have hP : va_P D vwCl ([(bq2, .inl (dA 0, (x.rV i) - (x.rE i + 1), .inl g2))] ++ ([(pp2, .inr (10, [.ref bq2]))] ++ ([(vq, .inl (dA 6, x.rlab, .inr (.inr (.inr (.inr gv)))))] ++ ([(nq, .inl (dA 6, x.rlab, .inr (.inr (.inr (.inr (va_up gn pz (some pp)))))))] ++ (VW dA h ad (VS.s_pl x pl12)))))) H := hP
                have hD : va_D A ([(bq2, .inl (dA 0, (x.rV i) - (x.rE i + 1), .inl g2))] ++ ([(pp2, .inr (10, [.ref bq2]))] ++ ([(vq, .inl (dA 6, x.rlab, .inr (.inr (.inr (.inr gv)))))] ++ ([(nq, .inl (dA 6, x.rlab, .inr (.inr (.inr (.inr (va_up gn pz (some pp)))))))] ++ (VW dA h ad (VS.s_pl x pl12)))))) := hD
                obtain ⟨f_y_30, f_hg_31⟩ := hp9
                refine nqst (r := ("SeriesVault$Word", TW, 1)) (f := gv) (n := x.rlab) hx hb hK hP hD hS (2) 6 (1) 10 rfl rfl rfl rfl (pz) (by omega) (by omega) d_R_made_134 (fun H locs hP hD hS => ?_)
                have hP : va_P D vwCl ([(bq2, .inl (dA 0, (x.rV i) - (x.rE i + 1), .inl g2))] ++ ([(pp2, .inr (10, [.ref bq2]))] ++ ([(vq, .inl (dA 6, x.rlab, .inr (.inr (.inr (.inr (va_up gv pz (some pp2)))))))] ++ ([(nq, .inl (dA 6, x.rlab, .inr (.inr (.inr (.inr (va_up gn pz (some pp)))))))] ++ (VW dA h ad (VS.s_pl x pl12)))))) H := hP
                have hD : va_D A ([(bq2, .inl (dA 0, (x.rV i) - (x.rE i + 1), .inl g2))] ++ ([(pp2, .inr (10, [.ref bq2]))] ++ ([(vq, .inl (dA 6, x.rlab, .inr (.inr (.inr (.inr (va_up gv pz (some pp2)))))))] ++ ([(nq, .inl (dA 6, x.rlab, .inr (.inr (.inr (.inr (va_up gn pz (some pp)))))))] ++ (VW dA h ad (VS.s_pl x pl12)))))) := hD
                have hP := pmP (show List.Perm (α := Nat × va_E) ([(bq2, .inl (dA 0, (x.rV i) - (x.rE i + 1), .inl g2))] ++ ([(pp2, .inr (10, [.ref bq2]))] ++ ([(vq, .inl (dA 6, x.rlab, .inr (.inr (.inr (.inr (va_up gv pz (some pp2)))))))] ++ ([(nq, .inl (dA 6, x.rlab, .inr (.inr (.inr (.inr (va_up gn pz (some pp)))))))] ++ (VW dA h ad (VS.s_pl x pl12)))))) ([(vq, .inl (dA 6, x.rlab, .inr (.inr (.inr (.inr (va_up gv pz (some pp2)))))))] ++ ([(bq2, .inl (dA 0, (x.rV i) - (x.rE i + 1), .inl g2))] ++ ([(pp2, .inr (10, [.ref bq2]))] ++ ([(nq, .inl (dA 6, x.rlab, .inr (.inr (.inr (.inr (va_up gn pz (some pp)))))))] ++ (VW dA h ad (VS.s_pl x pl12)))))) from (List.Perm.append_left ([(bq2, .inl (dA 0, (x.rV i) - (x.rE i + 1), .inl g2))]) (List.perm_append_comm_assoc ([(pp2, .inr (10, [.ref bq2]))]) ([(vq, .inl (dA 6, x.rlab, .inr (.inr (.inr (.inr (va_up gv pz (some pp2)))))))]) ([(nq, .inl (dA 6, x.rlab, .inr (.inr (.inr (.inr (va_up gn pz (some pp)))))))] ++ (VW dA h ad (VS.s_pl x pl12))))).trans (List.perm_append_comm_assoc ([(bq2, .inl (dA 0, (x.rV i) - (x.rE i + 1), .inl g2))]) ([(vq, .inl (dA 6, x.rlab, .inr (.inr (.inr (.inr (va_up gv pz (some pp2)))))))]) ([(pp2, .inr (10, [.ref bq2]))] ++ ([(nq, .inl (dA 6, x.rlab, .inr (.inr (.inr (.inr (va_up gn pz (some pp)))))))] ++ (VW dA h ad (VS.s_pl x pl12)))))) hP
                have hD := pmD (show List.Perm (α := Nat × va_E) ([(bq2, .inl (dA 0, (x.rV i) - (x.rE i + 1), .inl g2))] ++ ([(pp2, .inr (10, [.ref bq2]))] ++ ([(vq, .inl (dA 6, x.rlab, .inr (.inr (.inr (.inr (va_up gv pz (some pp2)))))))] ++ ([(nq, .inl (dA 6, x.rlab, .inr (.inr (.inr (.inr (va_up gn pz (some pp)))))))] ++ (VW dA h ad (VS.s_pl x pl12)))))) ([(vq, .inl (dA 6, x.rlab, .inr (.inr (.inr (.inr (va_up gv pz (some pp2)))))))] ++ ([(bq2, .inl (dA 0, (x.rV i) - (x.rE i + 1), .inl g2))] ++ ([(pp2, .inr (10, [.ref bq2]))] ++ ([(nq, .inl (dA 6, x.rlab, .inr (.inr (.inr (.inr (va_up gn pz (some pp)))))))] ++ (VW dA h ad (VS.s_pl x pl12)))))) from (List.Perm.append_left ([(bq2, .inl (dA 0, (x.rV i) - (x.rE i + 1), .inl g2))]) (List.perm_append_comm_assoc ([(pp2, .inr (10, [.ref bq2]))]) ([(vq, .inl (dA 6, x.rlab, .inr (.inr (.inr (.inr (va_up gv pz (some pp2)))))))]) ([(nq, .inl (dA 6, x.rlab, .inr (.inr (.inr (.inr (va_up gn pz (some pp)))))))] ++ (VW dA h ad (VS.s_pl x pl12))))).trans (List.perm_append_comm_assoc ([(bq2, .inl (dA 0, (x.rV i) - (x.rE i + 1), .inl g2))]) ([(vq, .inl (dA 6, x.rlab, .inr (.inr (.inr (.inr (va_up gv pz (some pp2)))))))]) ([(pp2, .inr (10, [.ref bq2]))] ++ ([(nq, .inl (dA 6, x.rlab, .inr (.inr (.inr (.inr (va_up gn pz (some pp)))))))] ++ (VW dA h ad (VS.s_pl x pl12)))))) hD
                have hP := pmP (show List.Perm (α := Nat × va_E) ([(vq, .inl (dA 6, x.rlab, .inr (.inr (.inr (.inr (va_up gv pz (some pp2)))))))] ++ ([(bq2, .inl (dA 0, (x.rV i) - (x.rE i + 1), .inl g2))] ++ ([(pp2, .inr (10, [.ref bq2]))] ++ ([(nq, .inl (dA 6, x.rlab, .inr (.inr (.inr (.inr (va_up gn pz (some pp)))))))] ++ (VW dA h ad (VS.s_pl x pl12)))))) ([(vq, .inl (dA 6, x.rlab, .inr (.inr (.inr (.inr (va_up gv pz (some pp2)))))))] ++ ([(nq, .inl (dA 6, x.rlab, .inr (.inr (.inr (.inr (va_up gn pz (some pp)))))))] ++ ([(bq2, .inl (dA 0, (x.rV i) - (x.rE i + 1), .inl g2))] ++ ([(pp2, .inr (10, [.ref bq2]))] ++ (VW dA h ad (VS.s_pl x pl12)))))) from List.Perm.append_left ([(vq, .inl (dA 6, x.rlab, .inr (.inr (.inr (.inr (va_up gv pz (some pp2)))))))]) ((List.Perm.append_left ([(bq2, .inl (dA 0, (x.rV i) - (x.rE i + 1), .inl g2))]) (List.perm_append_comm_assoc ([(pp2, .inr (10, [.ref bq2]))]) ([(nq, .inl (dA 6, x.rlab, .inr (.inr (.inr (.inr (va_up gn pz (some pp)))))))]) (VW dA h ad (VS.s_pl x pl12)))).trans (List.perm_append_comm_assoc ([(bq2, .inl (dA 0, (x.rV i) - (x.rE i + 1), .inl g2))]) ([(nq, .inl (dA 6, x.rlab, .inr (.inr (.inr (.inr (va_up gn pz (some pp)))))))]) ([(pp2, .inr (10, [.ref bq2]))] ++ (VW dA h ad (VS.s_pl x pl12)))))) hP
                have hD := pmD (show List.Perm (α := Nat × va_E) ([(vq, .inl (dA 6, x.rlab, .inr (.inr (.inr (.inr (va_up gv pz (some pp2)))))))] ++ ([(bq2, .inl (dA 0, (x.rV i) - (x.rE i + 1), .inl g2))] ++ ([(pp2, .inr (10, [.ref bq2]))] ++ ([(nq, .inl (dA 6, x.rlab, .inr (.inr (.inr (.inr (va_up gn pz (some pp)))))))] ++ (VW dA h ad (VS.s_pl x pl12)))))) ([(vq, .inl (dA 6, x.rlab, .inr (.inr (.inr (.inr (va_up gv pz (some pp2)))))))] ++ ([(nq, .inl (dA 6, x.rlab, .inr (.inr (.inr (.inr (va_up gn pz (some pp)))))))] ++ ([(bq2, .inl (dA 0, (x.rV i) - (x.rE i + 1), .inl g2))] ++ ([(pp2, .inr (10, [.ref bq2]))] ++ (VW dA h ad (VS.s_pl x pl12)))))) from List.Perm.append_left ([(vq, .inl (dA 6, x.rlab, .inr (.inr (.inr (.inr (va_up gv pz (some pp2)))))))]) ((List.Perm.append_left ([(bq2, .inl (dA 0, (x.rV i) - (x.rE i + 1), .inl g2))]) (List.perm_append_comm_assoc ([(pp2, .inr (10, [.ref bq2]))]) ([(nq, .inl (dA 6, x.rlab, .inr (.inr (.inr (.inr (va_up gn pz (some pp)))))))]) (VW dA h ad (VS.s_pl x pl12)))).trans (List.perm_append_comm_assoc ([(bq2, .inl (dA 0, (x.rV i) - (x.rE i + 1), .inl g2))]) ([(nq, .inl (dA 6, x.rlab, .inr (.inr (.inr (.inr (va_up gn pz (some pp)))))))]) ([(pp2, .inr (10, [.ref bq2]))] ++ (VW dA h ad (VS.s_pl x pl12)))))) hD
                have hP : va_P D vwCl ([(vq, .inl (dA 6, x.rlab, .inr (.inr (.inr (.inr (va_up gv pz (some pp2)))))))] ++ ([(nq, .inl (dA 6, x.rlab, .inr (.inr (.inr (.inr (va_up gn pz (some pp)))))))] ++ (VW dA h ad (VS.s_pl x (pl12 ++ ([(bq2, .inl (dA 0, (x.rV i) - (x.rE i + 1), .inl g2))] ++ ([(pp2, .inr (10, [.ref bq2]))]))))))) H := pmP (show List.Perm (α := Nat × va_E) ([(vq, .inl (dA 6, x.rlab, .inr (.inr (.inr (.inr (va_up gv pz (some pp2)))))))] ++ ([(nq, .inl (dA 6, x.rlab, .inr (.inr (.inr (.inr (va_up gn pz (some pp)))))))] ++ ([(bq2, .inl (dA 0, (x.rV i) - (x.rE i + 1), .inl g2))] ++ ([(pp2, .inr (10, [.ref bq2]))] ++ (VW dA h ad (VS.s_pl x pl12)))))) ([(vq, .inl (dA 6, x.rlab, .inr (.inr (.inr (.inr (va_up gv pz (some pp2)))))))] ++ ([(nq, .inl (dA 6, x.rlab, .inr (.inr (.inr (.inr (va_up gn pz (some pp)))))))] ++ (VW dA h ad (VS.s_pl x (pl12 ++ ([(bq2, .inl (dA 0, (x.rV i) - (x.rE i + 1), .inl g2))] ++ ([(pp2, .inr (10, [.ref bq2]))]))))))) from List.Perm.append_left ([(vq, .inl (dA 6, x.rlab, .inr (.inr (.inr (.inr (va_up gv pz (some pp2)))))))]) (List.Perm.append_left ([(nq, .inl (dA 6, x.rlab, .inr (.inr (.inr (.inr (va_up gn pz (some pp)))))))]) (plP2 (dA := dA) (h := h) (ad := ad) (VS.s_pl x pl12) ([(bq2, .inl (dA 0, (x.rV i) - (x.rE i + 1), .inl g2))]) ([(pp2, .inr (10, [.ref bq2]))])))) hP
                have hD : va_D A ([(vq, .inl (dA 6, x.rlab, .inr (.inr (.inr (.inr (va_up gv pz (some pp2)))))))] ++ ([(nq, .inl (dA 6, x.rlab, .inr (.inr (.inr (.inr (va_up gn pz (some pp)))))))] ++ (VW dA h ad (VS.s_pl x (pl12 ++ ([(bq2, .inl (dA 0, (x.rV i) - (x.rE i + 1), .inl g2))] ++ ([(pp2, .inr (10, [.ref bq2]))]))))))) := pmD (show List.Perm (α := Nat × va_E) ([(vq, .inl (dA 6, x.rlab, .inr (.inr (.inr (.inr (va_up gv pz (some pp2)))))))] ++ ([(nq, .inl (dA 6, x.rlab, .inr (.inr (.inr (.inr (va_up gn pz (some pp)))))))] ++ ([(bq2, .inl (dA 0, (x.rV i) - (x.rE i + 1), .inl g2))] ++ ([(pp2, .inr (10, [.ref bq2]))] ++ (VW dA h ad (VS.s_pl x pl12)))))) ([(vq, .inl (dA 6, x.rlab, .inr (.inr (.inr (.inr (va_up gv pz (some pp2)))))))] ++ ([(nq, .inl (dA 6, x.rlab, .inr (.inr (.inr (.inr (va_up gn pz (some pp)))))))] ++ (VW dA h ad (VS.s_pl x (pl12 ++ ([(bq2, .inl (dA 0, (x.rV i) - (x.rE i + 1), .inl g2))] ++ ([(pp2, .inr (10, [.ref bq2]))]))))))) from List.Perm.append_left ([(vq, .inl (dA 6, x.rlab, .inr (.inr (.inr (.inr (va_up gv pz (some pp2)))))))]) (List.Perm.append_left ([(nq, .inl (dA 6, x.rlab, .inr (.inr (.inr (.inr (va_up gn pz (some pp)))))))]) (plP2 (dA := dA) (h := h) (ad := ad) (VS.s_pl x pl12) ([(bq2, .inl (dA 0, (x.rV i) - (x.rE i + 1), .inl g2))]) ([(pp2, .inr (10, [.ref bq2]))])))) hD
                obtain ⟨pl32, e_pl32⟩ : ∃ z, z = pl12 ++ ([(bq2, .inl (dA 0, (x.rV i) - (x.rE i + 1), .inl g2))] ++ ([(pp2, .inr (10, [.ref bq2]))])) := ⟨_, rfl⟩
                rw [← e_pl32] at hP hD
                have s_pl32 : ∀ c, c ∈ pl12 → c ∈ pl32 := by rw [e_pl32]; exact fun _ hm => List.mem_append_left _ hm
                have t_pl32_0 : ((bq2, .inl (dA 0, (x.rV i) - (x.rE i + 1), .inl g2)) : Nat × va_E) ∈ pl32 := by rw [e_pl32]; exact List.mem_append_right _ (List.mem_of_getElem? (i := 0) rfl)
                have t_pl32_1 : ((pp2, .inr (10, [.ref bq2])) : Nat × va_E) ∈ pl32 := by rw [e_pl32]; exact List.mem_append_right _ (List.mem_of_getElem? (i := 1) rfl)
                have hP : va_P D vwCl ([(vq, .inl (dA 6, x.rlab, .inr (.inr (.inr (.inr (va_up gv pz (some pp2)))))))] ++ ([(nq, .inl (dA 6, x.rlab, .inr (.inr (.inr (.inr (va_up gn pz (some pp)))))))] ++ (VW dA h ad (VS.s_pl x pl32)))) H := hP
                have hD : va_D A ([(vq, .inl (dA 6, x.rlab, .inr (.inr (.inr (.inr (va_up gv pz (some pp2)))))))] ++ ([(nq, .inl (dA 6, x.rlab, .inr (.inr (.inr (.inr (va_up gn pz (some pp)))))))] ++ (VW dA h ad (VS.s_pl x pl32)))) := hD
                have wpp2 : isWo dA pl32 pp2 (rawL x.tape x.rS x.rE x.rV i).2 := isWo_n t_pl32_1 t_pl32_0 f_y_30 (seg_len _ _ _) (fun k hk => (f_hg_31 k hk).trans (seg_get _ hk).symm)
                have ip0 : insP (rawL x.tape x.rS x.rE x.rV i).1 (srtL x.tape x.rS x.rE x.rV i) (srtL x.tape x.rS x.rE x.rV i).length = pz := by rw [srtL_len, ← ip]; exact insP_n (Or.inr (Int32.not_lt.mpr g25))
                have hel2 : lbW dA pl32 (va_up gn pz (some pp)) (va_up gv pz (some pp2)) (srtL x.tape x.rS x.rE x.rV (i + 1)) := by
                  have h9 := lbW_ins (l := (rawL x.tape x.rS x.rE x.rV i)) (lbW_m s_pl32 hel1) (isWo_m s_pl32 wpp) wpp2
                  rw [ip0, srtL_len] at h9
                  rw [en, ev]
                  exact h9
                have hs2 : ∀ c, c ∈ x.pl → c ∈ pl32 := fun c hc => s_pl32 c (hs1 c hc)
                refine lv_iinc (k := 6) (v := nI (i + 1)) hx hb d_R_made_135 hl rfl (iincN (i) 1 1 (by decide)) (by decide) rfl (fun ls hl => ?_)
                have hl : lv_has ls 7 [(4, .int (nI (i + 1))), (6, .int (nI pz)), (5, .ref pp), (0, .ref (ad 18)), (1, .ref x.tpA), (2, .ref nq), (3, .ref vq)] := hl
                refine lv_goto hx hb d_R_made_138 (tgt := 19) rfl ?_
                refine W.widen (k := 2 + 4 * (i + 1)) (n := 2 * x.rlab + 50 * (i + 1)) (show 2 + 4 * i + 1 + 1 + 0 + 1 + 1 ≤ 2 + 4 * (i + 1) from by omega) (show 2 * x.rlab + 50 * i + 1 + ((x.rE i) - (x.rS i)) + 0 + 1 + ((x.rV i) - (x.rE i + 1)) ≤ 2 * x.rlab + 50 * (i + 1) from by omega) ?_
                exact ih19 _ (by omega) (i + 1) (va_up gn pz (some pp)) (va_up gv pz (some pp2)) pl32 (by omega) hs2 hel2 rfl H _ ls hP hD hS (lv_sub hl [3, 4, 5, 6, 0] rfl)
              · have g25 := g25
                refine lv_aload_n hx hb d_R_made_75 rfl (lv_at hl 4 rfl) ?_
                refine lv_iload hx hb d_R_made_76 (lv_at hl 0 rfl) ?_
                refine lv_aload_n hx hb d_R_made_78 rfl (lv_at hl 4 rfl) ?_
                refine lv_iload hx hb d_R_made_79 (lv_at hl 0 rfl) ?_
                refine lv_iconst (v := 1) hx hb d_R_made_81 (by decide) ?_
                refine lv_isub hx hb d_R_made_82 (tpi (y := nI (pz - 1)) (pk_sub (a := pz) (b := 1) (by omega)) ?_)
                refine nqld (f := gn) (n := x.rlab) hx hb hK hP (1) 6 rfl rfl (pz - 1) (by omega) (by omega) (by rw [en]; exact (shU_lt fn (by omega)).trans e1) d_R_made_83 ?_
                obtain ⟨qp33, ep34⟩ := List.getElem?_of_mem (show ((p1, .inr (10, [.ref bb1])) : Nat × va_E) ∈ [(vq, .inl (dA 6, x.rlab, .inr (.inr (.inr (.inr gv)))))] ++ ([(nq, .inl (dA 6, x.rlab, .inr (.inr (.inr (.inr gn)))))] ++ (VW dA h ad (VS.s_pl x pl12))) from (List.mem_append_right _ (List.mem_append_right _ (plm kk1))))
                refine nqst (r := ("SeriesVault$Word", TW, 1)) (f := gn) (n := x.rlab) hx hb hK hP hD hS (1) 6 (qp33) 10 rfl rfl ep34 rfl (pz) (by omega) (by omega) d_R_made_84 (fun H locs hP hD hS => ?_)
                have hP : va_P D vwCl ([(vq, .inl (dA 6, x.rlab, .inr (.inr (.inr (.inr gv)))))] ++ ([(nq, .inl (dA 6, x.rlab, .inr (.inr (.inr (.inr (va_up gn pz (some p1)))))))] ++ (VW dA h ad (VS.s_pl x pl12)))) H := hP
                have hD : va_D A ([(vq, .inl (dA 6, x.rlab, .inr (.inr (.inr (.inr gv)))))] ++ ([(nq, .inl (dA 6, x.rlab, .inr (.inr (.inr (.inr (va_up gn pz (some p1)))))))] ++ (VW dA h ad (VS.s_pl x pl12)))) := hD
                refine lv_aload_n hx hb d_R_made_85 rfl (lv_at hl 5 rfl) ?_
                refine lv_iload hx hb d_R_made_86 (lv_at hl 0 rfl) ?_
                refine lv_aload_n hx hb d_R_made_88 rfl (lv_at hl 5 rfl) ?_
                refine lv_iload hx hb d_R_made_89 (lv_at hl 0 rfl) ?_
                refine lv_iconst (v := 1) hx hb d_R_made_91 (by decide) ?_
                refine lv_isub hx hb d_R_made_92 (tpi (y := nI (pz - 1)) (pk_sub (a := pz) (b := 1) (by omega)) ?_)
                refine nqld (f := gv) (n := x.rlab) hx hb hK hP (0) 6 rfl rfl (pz - 1) (by omega) (by omega) (by rw [ev]; exact (shU_lt fv (by omega)).trans e2) d_R_made_93 ?_
                obtain ⟨qp35, ep36⟩ := List.getElem?_of_mem (show ((q1, .inr (10, [.ref bb2])) : Nat × va_E) ∈ [(vq, .inl (dA 6, x.rlab, .inr (.inr (.inr (.inr gv)))))] ++ ([(nq, .inl (dA 6, x.rlab, .inr (.inr (.inr (.inr (va_up gn pz (some p1)))))))] ++ (VW dA h ad (VS.s_pl x pl12))) from (List.mem_append_right _ (List.mem_append_right _ (plm kk3))))
                refine nqst (r := ("SeriesVault$Word", TW, 1)) (f := gv) (n := x.rlab) hx hb hK hP hD hS (0) 6 (qp35) 10 rfl rfl ep36 rfl (pz) (by omega) (by omega) d_R_made_94 (fun H locs hP hD hS => ?_)
                have hP : va_P D vwCl ([(vq, .inl (dA 6, x.rlab, .inr (.inr (.inr (.inr (va_up gv pz (some q1)))))))] ++ ([(nq, .inl (dA 6, x.rlab, .inr (.inr (.inr (.inr (va_up gn pz (some p1)))))))] ++ (VW dA h ad (VS.s_pl x pl12)))) H := hP
                have hD : va_D A ([(vq, .inl (dA 6, x.rlab, .inr (.inr (.inr (.inr (va_up gv pz (some q1)))))))] ++ ([(nq, .inl (dA 6, x.rlab, .inr (.inr (.inr (.inr (va_up gn pz (some p1)))))))] ++ (VW dA h ad (VS.s_pl x pl12)))) := hD
                refine lv_iinc (k := 0) (v := nI (pz - 1)) hx hb d_R_made_95 hl rfl (iincM (by omega)) (by decide) rfl (fun ls hl => ?_)
                have hl : lv_has ls 7 [(6, .int (nI (pz - 1))), (5, .ref pp), (0, .ref (ad 18)), (1, .ref x.tpA), (2, .ref nq), (3, .ref vq), (4, .int (nI i))] := hl
                refine lv_goto hx hb d_R_made_98 (tgt := 56) rfl ?_
                exact ih56 _ (by omega) (pz - 1) (va_up gn pz (some p1)) (va_up gv pz (some q1)) (by omega) (by rw [en]; exact shU_s (by omega) pi e1.symm) (by rw [ev]; exact shU_s (by omega) pi e2.symm) (by rw [← ip, insP_y (by omega) (Int32.not_le.mp g25)]) rfl H _ ls hP hD hS (lv_sub hl [0, 1, 2, 3, 4, 5, 6] rfl)
        exact L56 _ i fn fv (by omega) (shU_0 fn i).symm (shU_0 fv i).symm rfl rfl H _ ls hP hD hS (lv_sub hl [0, 1, 2, 3, 4, 5, 6] rfl)
  refine W.widen (k := 2 + 4 * 0) (n := 2 * x.rlab + 50 * 0) (show 0 + 1 + 1 ≤ 2 + 4 * 0 from by omega) (show 0 + x.rlab + x.rlab ≤ 2 * x.rlab + 50 * 0 from by omega) ?_
  exact L19 _ 0 (fun _ => none) (fun _ => none) x.pl (Nat.zero_le _) (fun _ hc => hc) (fun k hk => absurd hk (Nat.not_lt_zero k)) rfl H _ ls hP hD hS (lv_sub hl [3, 4, 2, 1, 0] rfl)
end
section
/-- the series of the class -/
def knOk (dA : Nat → ClassId) (kn : Nat → Option Nat) (n : Nat) (pl : va_W) (SS : Nat → List LB) : Prop := ∀ k, k < n → ∃ a : Nat, kn k = some a ∧ isSer dA pl a (SS k) ∧ serOk (SS k)
def nuB (SS : Nat → List LB) (S : List LB) (k : Nat) : Bool := sameW (joinT (SS k)) (joinT S)
def nuN (SS : Nat → List LB) (S : List LB) (n : Nat) : Nat := match frst (nuB SS S) n 0 with
  | none => n
  | some k => k
theorem nuN_n {SS : Nat → List LB} {S : List LB} {n : Nat} (h : frst (nuB SS S) n 0 = none) : nuN SS S n = n := by unfold nuN; rw [h]
theorem nuN_s {SS : Nat → List LB} {S : List LB} {n k : Nat} (h : frst (nuB SS S) n 0 = some k) : nuN SS S n = k := by unfold nuN; rw [h]
/-- blocks and room of the catalog -/
def uS (S : List LB) : Nat := 1 + ((joinT S).length + 32 - 1) / 32
def ctG2 (SS : Nat → List LB) : Nat → Nat × Nat
  | 0 => (0, 0)
  | k + 1 => if uS (SS k) ≤ (ctG2 SS k).2 then ((ctG2 SS k).1, (ctG2 SS k).2 - uS (SS k)) else ((ctG2 SS k).1 + 1, 126 - uS (SS k))
theorem uS_le {S : List LB} (h : serOk S) : uS S ≤ 11 := by
  have := jt_le h
  unfold uS
  omega
theorem d_V_numberOf_0 : decode prog_1_method_24_code 0 = .ok (.iconst 0, 1) := by decide +kernel
theorem d_V_numberOf_1 : decode prog_1_method_24_code 1 = .ok (.istore_n 2, 1) := by decide +kernel
theorem d_V_numberOf_2 : decode prog_1_method_24_code 2 = .ok (.iload_n 2, 1) := by decide +kernel
theorem d_V_numberOf_3 : decode prog_1_method_24_code 3 = .ok (.aload_n 0, 1) := by decide +kernel
theorem d_V_numberOf_4 : decode prog_1_method_24_code 4 = .ok (.getfield 33, 3) := by decide +kernel
theorem d_V_numberOf_7 : decode prog_1_method_24_code 7 = .ok (.getfield 130, 3) := by decide +kernel
theorem d_V_numberOf_10 : decode prog_1_method_24_code 10 = .ok (.if_icmp .ge 30, 3) := by decide +kernel
theorem d_V_numberOf_40 : decode prog_1_method_24_code 40 = .ok (.aload_n 0, 1) := by decide +kernel
theorem d_V_numberOf_41 : decode prog_1_method_24_code 41 = .ok (.getfield 33, 3) := by decide +kernel
theorem d_V_numberOf_44 : decode prog_1_method_24_code 44 = .ok (.getfield 130, 3) := by decide +kernel
theorem d_V_numberOf_47 : decode prog_1_method_24_code 47 = .ok (.ireturn, 1) := by decide +kernel
theorem d_V_numberOf_13 : decode prog_1_method_24_code 13 = .ok (.aload_n 0, 1) := by decide +kernel
theorem d_V_numberOf_14 : decode prog_1_method_24_code 14 = .ok (.getfield 42, 3) := by decide +kernel
theorem d_V_numberOf_17 : decode prog_1_method_24_code 17 = .ok (.iload_n 2, 1) := by decide +kernel
theorem d_V_numberOf_18 : decode prog_1_method_24_code 18 = .ok (.aaload, 1) := by decide +kernel
theorem d_V_numberOf_19 : decode prog_1_method_24_code 19 = .ok (.getfield 225, 3) := by decide +kernel
theorem d_V_numberOf_22 : decode prog_1_method_24_code 22 = .ok (.aload_n 1, 1) := by decide +kernel
theorem d_V_numberOf_23 : decode prog_1_method_24_code 23 = .ok (.getfield 225, 3) := by decide +kernel
theorem d_V_numberOf_26 : decode prog_1_method_24_code 26 = .ok (.invokevirtual 229, 3) := by decide +kernel
theorem d_V_numberOf_29 : decode prog_1_method_24_code 29 = .ok (.ifCond .eq 5, 3) := by decide +kernel
theorem d_V_numberOf_34 : decode prog_1_method_24_code 34 = .ok (.iinc 2 1, 3) := by decide +kernel
theorem d_V_numberOf_37 : decode prog_1_method_24_code 37 = .ok (.goto (-35), 3) := by decide +kernel
theorem d_V_numberOf_32 : decode prog_1_method_24_code 32 = .ok (.iload_n 2, 1) := by decide +kernel
theorem d_V_numberOf_33 : decode prog_1_method_24_code 33 = .ok (.ireturn, 1) := by decide +kernel
theorem w1321 : Cond.fieldLinkNest "SeriesVault" 225 "SeriesVault$Series" "text" "LSeriesVault$Word;" "SeriesVault" ∈ aW := aw_of (tb_5 (List.mem_of_getElem? (i := 8) rfl)) rfl
theorem w1322 : Cond.methodLink "SeriesVault" 229 ⟨"SeriesVault$Word", "same", "(LSeriesVault$Word;)Z"⟩ ∈ aW := aw_of (tb_5 (List.mem_of_getElem? (i := 22) rfl)) rfl
set_option maxHeartbeats 4000000 in
set_option maxRecDepth 100000 in
theorem v_numberOf (l : Launch) (D : va_G) (dA : Nat → ClassId) (sz : Nat) (h : Nat) (ad : Nat → Nat) (x : VS) (SS : Nat → List LB) (a : Nat) (S : List LB) (hkn : knOk dA x.kn x.nser x.pl SS) (hn : x.nser ≤ 256) (hsr : isSer dA x.pl a S) (hso : serOk S) : Met l ⟨"SeriesVault", "numberOf", "(LSeriesVault$Series;)I"⟩ [Cond.code ⟨"SeriesVault", "numberOf", "(LSeriesVault$Series;)I"⟩ prog_1_method_24_code 3 (some FieldType.int)] { frames := 2, cells := 0, slots := 0, locals := 22 } (pC D dA [.ref h, .ref a] (VW dA h ad x) sz) (va_Qi (fun (r9 : Int32) (u9 : Unit) => r9 = nI (nuN SS S x.nser)) (fun (u9 : Unit) t9 => bW D (va_A (VW dA h ad x) sz) (VW dA h ad x) t9) (va_A (VW dA h ad x) sz)) 0 0 (va_A (VW dA h ad x) sz) := by
  refine mkC (y := ⟨"SeriesVault", "numberOf", "(LSeriesVault$Series;)I"⟩) (cc := prog_1_method_24_code) (maxL := 3) (av := [.ref h, .ref a]) (ws := VW dA h ad x) (sz := sz) (Qc := fun A => va_Qi (fun (r9 : Int32) (u9 : Unit) => r9 = nI (nuN SS S x.nser)) (fun (u9 : Unit) t9 => bW D A (VW dA h ad x) t9) A) (by decide) (Nat.le_of_ble_eq_true rfl) ?_
  intro A p e s m below meth c ls hsz hB
  obtain ⟨hx, hb, hr, hml, hown, hin, hlk, hE, hK, hP, hD, hS, hA, hN, hl⟩ := hB
  have hown : s.vm.findClass "SeriesVault" = some m.cls := hown
  have hl : lv_has ls 3 [(0, .ref h), (1, .ref a)] := hl
  obtain ⟨H, hH⟩ : ∃ z, z = s.heap := ⟨_, rfl⟩
  have hP : va_P D vwCl (VW dA h ad x) H := by rw [hH]; exact hP
  have hS : va_S A s.heap H [] := by rw [hH]; exact hS
  rw [← hH]
  have hsrc := hsr
  obtain ⟨na, va, no, tx, fn, fv, n1, n2, n3, wno, wtx, hel⟩ := hsrc
  have wtxc := wtx
  obtain ⟨b_tx, f_tx, m1tx, m2tx, y_tx, hf_tx⟩ := wtxc
  have jl := jt_le hso
  refine lv_iconst (v := 0) hx hb d_V_numberOf_0 (by decide) ?_
  refine lv_istore_n hx hb d_V_numberOf_1 rfl hl (by decide) rfl (fun ls hl => ?_)
  have hl : lv_has ls 3 [(2, .int 0), (0, .ref h), (1, .ref a)] := hl
  have L2 : ∀ (k9 : Nat) (k : Nat) (i1 : k ≤ x.nser) (i2 : frst (nuB SS S) (x.nser - k) k = frst (nuB SS S) x.nser 0) (hk9 : x.nser - k = k9), ∀ (H : Heap) (locs : List Loc) (ls : Array Slot) (hP : va_P D vwCl (VW dA h ad x) H) (hD : va_D A (VW dA h ad x)) (hS : va_S A s.heap H locs) (hl : lv_has ls 3 [(2, .int (nI k)), (0, .ref h), (1, .ref a)]), W p l e ({ frames := 2, cells := 0, slots := 0, locals := 22 } : Room) s m ([.ref h, .ref a] : List Value).toArray below meth c H locs 0 0 (MQ below (va_Qi (fun (r9 : Int32) (u9 : Unit) => r9 = nI (nuN SS S x.nser)) (fun (u9 : Unit) t9 => bW D A (VW dA h ad x) t9) A) ([.ref h, .ref a] : List Value).toArray s 0 0 A) (F0 m 2 ls []) := by
    intro k9
    induction k9 using Nat.strongRecOn with
    | ind k9 ih2 =>
      intro k i1 i2 hk9 H locs ls hP hD hS hl
      refine lv_iload_n hx hb d_V_numberOf_2 rfl (lv_at hl 0 rfl) ?_
      refine lv_aload_n hx hb d_V_numberOf_3 rfl (lv_at hl 1 rfl) ?_
      refine gF (v := .ref (ad 3)) hx hb hown hE hK hP 0 rfl rfl layV 11 (by decide) w297 rfl d_V_numberOf_4 ?_
      refine gFN (v := .int (nI x.nser)) hx hb hown hE hK hP 17 rfl rfl layH 8 (by decide) w298 rfl d_V_numberOf_7 ?_
      refine lv_icmp_ge hx hb d_V_numberOf_10 (tgt := 40) rfl (fun g1 => ?_) (fun g1 => ?_)
      · have g1 := (nI_leI (a := x.nser) (b := k) (by omega) (by omega)).mp g1
        refine lv_aload_n hx hb d_V_numberOf_40 rfl (lv_at hl 1 rfl) ?_
        refine gF (v := .ref (ad 3)) hx hb hown hE hK hP 0 rfl rfl layV 11 (by decide) w297 rfl d_V_numberOf_41 ?_
        refine gFN (v := .int (nI x.nser)) hx hb hown hE hK hP 17 rfl rfl layH 8 (by decide) w298 rfl d_V_numberOf_44 ?_
        exact rfI hx hb hr hlk hS () (by rw [nuN_n (by rw [← i2, show x.nser - k = 0 by omega]; rfl)]) hP hD (Nat.le_of_ble_eq_true rfl) (Nat.le_of_ble_eq_true rfl) d_V_numberOf_47
      · have g1 := mt (nI_leI (a := x.nser) (b := k) (by omega) (by omega)).mpr g1
        obtain ⟨a1, ke, hs1, ho1⟩ := hkn k (by omega)
        have hs1c := hs1
        obtain ⟨na1, va1, no1, tx1, fn1, fv1, j1, j2, j3, wn1, wt1, he1⟩ := hs1c
        have wt1c := wt1
        obtain ⟨bx1, fx1, jx1, jx2, jy1, jf1⟩ := wt1c
        have jl1 := jt_le ho1
        refine lv_aload_n hx hb d_V_numberOf_13 rfl (lv_at hl 1 rfl) ?_
        refine gF (v := .ref (ad 17)) hx hb hown hE hK hP 0 rfl rfl layV 13 (by decide) w833 rfl d_V_numberOf_14 ?_
        refine lv_iload_n hx hb d_V_numberOf_17 rfl (lv_at hl 0 rfl) ?_
        refine nqld (f := x.kn) (n := 256) hx hb hK hP (31) 5 rfl rfl (k) (by omega) (by decide) ke d_V_numberOf_18 ?_
        obtain ⟨qp2, ep3⟩ := List.getElem?_of_mem (show ((a1, .inr (11, [.ref na1, .ref va1, .ref no1, .ref tx1])) : Nat × va_E) ∈ VW dA h ad x from (plm j1))
        refine gFN (v := .ref tx1) hx hb hown hE hK hP qp2 ep3 rfl layS 3 (by decide) w1321 rfl d_V_numberOf_19 ?_
        refine lv_aload_n hx hb d_V_numberOf_22 rfl (lv_at hl 2 rfl) ?_
        obtain ⟨qp4, ep5⟩ := List.getElem?_of_mem (show ((a, .inr (11, [.ref na, .ref va, .ref no, .ref tx])) : Nat × va_E) ∈ VW dA h ad x from (plm n1))
        refine gFN (v := .ref tx) hx hb hown hE hK hP qp4 ep5 rfl layS 3 (by decide) w1321 rfl d_V_numberOf_23 ?_
        obtain ⟨qp6, ep7⟩ := List.getElem?_of_mem (show ((tx1, .inr (10, [.ref bx1])) : Nat × va_E) ∈ VW dA h ad x from (plm jx1))
        refine jkI (wr := []) (rnV (As := [.ref tx]) (rest := []) hx hb hml hown hE hK (hN _ _ hS) hP hD (v_Wsame l D dA H.size (VW dA h ad x) tx1 (joinT (SS k)) tx (joinT S) (isWo_m (fun _ hm => (plm hm)) wt1) (show (joinT (SS k)).length ≤ 65536 by omega) (isWo_m (fun _ hm => (plm hm)) wtx) (show (joinT S).length ≤ 65536 by omega)) (q0 := qp6) ep7 rfl w1282 w1322 w1283 w1284 w1281 rfl rfl ⟨⟨by decide, by decide⟩, rfl⟩ ⟨(Nat.le_of_ble_eq_true rfl), (Nat.le_of_ble_eq_true rfl)⟩ rfl hl.1 rfl (Nat.le_of_ble_eq_true rfl) d_V_numberOf_26 ⟨(Nat.le_of_ble_eq_true rfl), (Nat.le_of_ble_eq_true rfl)⟩) hP hD hS hA (fun r8 u9 H locs hp9 hP hD hS => ?_)
        have hP : va_P D vwCl (VW dA h ad x) H := hP
        have hD : va_D A (VW dA h ad x) := hD
        replace hp9 : bI (sameW (joinT (SS k)) (joinT S)) = r8 := Eq.symm hp9
        subst hp9
        refine lv_if_eq hx hb d_V_numberOf_29 (tgt := 34) rfl (fun g10 => ?_) (fun g10 => ?_)
        · have g10 := bI_0 g10
          refine lv_iinc (k := 0) (v := nI (k + 1)) hx hb d_V_numberOf_34 hl rfl (iincN (k) 1 1 (by decide)) (by decide) rfl (fun ls hl => ?_)
          have hl : lv_has ls 3 [(2, .int (nI (k + 1))), (0, .ref h), (1, .ref a)] := hl
          refine lv_goto hx hb d_V_numberOf_37 (tgt := 2) rfl ?_
          exact ih2 _ (by omega) (k + 1) (by omega) (by rw [← i2, frst_f (n := x.nser - k) (by omega) (show nuB SS S k = false from g10), show x.nser - k - 1 = x.nser - (k + 1) by omega]) rfl H _ ls hP hD hS (lv_sub hl [0, 1, 2] rfl)
        · have g10 := bI_n0 g10
          refine lv_iload_n hx hb d_V_numberOf_32 rfl (lv_at hl 0 rfl) ?_
          exact rfI hx hb hr hlk hS () (by rw [nuN_s (k := k) (by rw [← i2, frst_t (n := x.nser - k) (by omega) (show nuB SS S k = true from g10)])]) hP hD (Nat.le_of_ble_eq_true rfl) (Nat.le_of_ble_eq_true rfl) d_V_numberOf_33
  exact L2 _ 0 (Nat.zero_le _) rfl rfl H _ ls hP hD hS (lv_sub hl [0, 1, 2] rfl)
theorem d_V_catalogBlocks_0 : decode prog_1_method_39_code 0 = .ok (.iconst 0, 1) := by decide +kernel
theorem d_V_catalogBlocks_1 : decode prog_1_method_39_code 1 = .ok (.istore_n 1, 1) := by decide +kernel
theorem d_V_catalogBlocks_2 : decode prog_1_method_39_code 2 = .ok (.iconst 0, 1) := by decide +kernel
theorem d_V_catalogBlocks_3 : decode prog_1_method_39_code 3 = .ok (.istore_n 2, 1) := by decide +kernel
theorem d_V_catalogBlocks_4 : decode prog_1_method_39_code 4 = .ok (.iconst 0, 1) := by decide +kernel
theorem d_V_catalogBlocks_5 : decode prog_1_method_39_code 5 = .ok (.istore_n 3, 1) := by decide +kernel
theorem d_V_catalogBlocks_6 : decode prog_1_method_39_code 6 = .ok (.iload_n 3, 1) := by decide +kernel
theorem d_V_catalogBlocks_7 : decode prog_1_method_39_code 7 = .ok (.aload_n 0, 1) := by decide +kernel
theorem d_V_catalogBlocks_8 : decode prog_1_method_39_code 8 = .ok (.getfield 33, 3) := by decide +kernel
theorem d_V_catalogBlocks_11 : decode prog_1_method_39_code 11 = .ok (.getfield 130, 3) := by decide +kernel
theorem d_V_catalogBlocks_14 : decode prog_1_method_39_code 14 = .ok (.if_icmp .ge 37, 3) := by decide +kernel
theorem d_V_catalogBlocks_51 : decode prog_1_method_39_code 51 = .ok (.iload_n 1, 1) := by decide +kernel
theorem d_V_catalogBlocks_52 : decode prog_1_method_39_code 52 = .ok (.ireturn, 1) := by decide +kernel
theorem d_V_catalogBlocks_17 : decode prog_1_method_39_code 17 = .ok (.aload_n 0, 1) := by decide +kernel
theorem d_V_catalogBlocks_18 : decode prog_1_method_39_code 18 = .ok (.getfield 42, 3) := by decide +kernel
theorem d_V_catalogBlocks_21 : decode prog_1_method_39_code 21 = .ok (.iload_n 3, 1) := by decide +kernel
theorem d_V_catalogBlocks_22 : decode prog_1_method_39_code 22 = .ok (.aaload, 1) := by decide +kernel
theorem d_V_catalogBlocks_23 : decode prog_1_method_39_code 23 = .ok (.invokevirtual 235, 3) := by decide +kernel
theorem d_V_catalogBlocks_26 : decode prog_1_method_39_code 26 = .ok (.istore 4, 2) := by decide +kernel
theorem d_V_catalogBlocks_28 : decode prog_1_method_39_code 28 = .ok (.iload 4, 2) := by decide +kernel
theorem d_V_catalogBlocks_30 : decode prog_1_method_39_code 30 = .ok (.iload_n 2, 1) := by decide +kernel
theorem d_V_catalogBlocks_31 : decode prog_1_method_39_code 31 = .ok (.if_icmp .le 9, 3) := by decide +kernel
theorem d_V_catalogBlocks_40 : decode prog_1_method_39_code 40 = .ok (.iload_n 2, 1) := by decide +kernel
theorem d_V_catalogBlocks_41 : decode prog_1_method_39_code 41 = .ok (.iload 4, 2) := by decide +kernel
theorem d_V_catalogBlocks_43 : decode prog_1_method_39_code 43 = .ok (.isub, 1) := by decide +kernel
theorem d_V_catalogBlocks_44 : decode prog_1_method_39_code 44 = .ok (.istore_n 2, 1) := by decide +kernel
theorem d_V_catalogBlocks_45 : decode prog_1_method_39_code 45 = .ok (.iinc 3 1, 3) := by decide +kernel
theorem d_V_catalogBlocks_48 : decode prog_1_method_39_code 48 = .ok (.goto (-42), 3) := by decide +kernel
theorem d_V_catalogBlocks_34 : decode prog_1_method_39_code 34 = .ok (.iinc 1 1, 3) := by decide +kernel
theorem d_V_catalogBlocks_37 : decode prog_1_method_39_code 37 = .ok (.bipush 126, 2) := by decide +kernel
theorem d_V_catalogBlocks_39 : decode prog_1_method_39_code 39 = .ok (.istore_n 2, 1) := by decide +kernel
theorem w1323 : Cond.methodLink "SeriesVault" 235 ⟨"SeriesVault$Series", "units", "()I"⟩ ∈ aW := aw_of (tb_5 (List.mem_of_getElem? (i := 30) rfl)) rfl
theorem w1324 : Cond.code ⟨"SeriesVault$Series", "units", "()I"⟩ prog_7_method_4_code 1 (some FieldType.int) ∈ aW := aw_of (tb_5 (List.mem_of_getElem? (i := 33) rfl)) rfl
theorem w1325 : Cond.instanceMethod ⟨"SeriesVault$Series", "units", "()I"⟩ ∈ aW := aw_of (tb_5 (List.mem_of_getElem? (i := 31) rfl)) rfl
theorem w1326 : Cond.selects "SeriesVault$Series" ⟨"SeriesVault$Series", "units", "()I"⟩ ⟨"SeriesVault$Series", "units", "()I"⟩ ∈ aW := aw_of (tb_5 (List.mem_of_getElem? (i := 32) rfl)) rfl
set_option maxHeartbeats 4000000 in
set_option maxRecDepth 100000 in
theorem v_catalogBlocks (l : Launch) (D : va_G) (dA : Nat → ClassId) (sz : Nat) (h : Nat) (ad : Nat → Nat) (x : VS) (SS : Nat → List LB) (hkn : knOk dA x.kn x.nser x.pl SS) (hn : x.nser ≤ 256) : Met l ⟨"SeriesVault", "catalogBlocks", "()I"⟩ [Cond.code ⟨"SeriesVault", "catalogBlocks", "()I"⟩ prog_1_method_39_code 5 (some FieldType.int)] { frames := 2, cells := 0, slots := 0, locals := 20 } (pC D dA [.ref h] (VW dA h ad x) sz) (va_Qi (fun (r9 : Int32) (u9 : Unit) => r9 = nI (ctG2 SS x.nser).1) (fun (u9 : Unit) t9 => bW D (va_A (VW dA h ad x) sz) (VW dA h ad x) t9) (va_A (VW dA h ad x) sz)) 0 0 (va_A (VW dA h ad x) sz) := by
  refine mkC (y := ⟨"SeriesVault", "catalogBlocks", "()I"⟩) (cc := prog_1_method_39_code) (maxL := 5) (av := [.ref h]) (ws := VW dA h ad x) (sz := sz) (Qc := fun A => va_Qi (fun (r9 : Int32) (u9 : Unit) => r9 = nI (ctG2 SS x.nser).1) (fun (u9 : Unit) t9 => bW D A (VW dA h ad x) t9) A) (by decide) (Nat.le_of_ble_eq_true rfl) ?_
  intro A p e s m below meth c ls hsz hB
  obtain ⟨hx, hb, hr, hml, hown, hin, hlk, hE, hK, hP, hD, hS, hA, hN, hl⟩ := hB
  have hown : s.vm.findClass "SeriesVault" = some m.cls := hown
  have hl : lv_has ls 5 [(0, .ref h)] := hl
  obtain ⟨H, hH⟩ : ∃ z, z = s.heap := ⟨_, rfl⟩
  have hP : va_P D vwCl (VW dA h ad x) H := by rw [hH]; exact hP
  have hS : va_S A s.heap H [] := by rw [hH]; exact hS
  rw [← hH]
  refine lv_iconst (v := 0) hx hb d_V_catalogBlocks_0 (by decide) ?_
  refine lv_istore_n hx hb d_V_catalogBlocks_1 rfl hl (by decide) rfl (fun ls hl => ?_)
  have hl : lv_has ls 5 [(1, .int 0), (0, .ref h)] := hl
  refine lv_iconst (v := 0) hx hb d_V_catalogBlocks_2 (by decide) ?_
  refine lv_istore_n hx hb d_V_catalogBlocks_3 rfl hl (by decide) rfl (fun ls hl => ?_)
  have hl : lv_has ls 5 [(2, .int 0), (1, .int 0), (0, .ref h)] := hl
  refine lv_iconst (v := 0) hx hb d_V_catalogBlocks_4 (by decide) ?_
  refine lv_istore_n hx hb d_V_catalogBlocks_5 rfl hl (by decide) rfl (fun ls hl => ?_)
  have hl : lv_has ls 5 [(3, .int 0), (2, .int 0), (1, .int 0), (0, .ref h)] := hl
  have L6 : ∀ (k9 : Nat) (k : Nat) (b : Nat) (o : Nat) (i1 : k ≤ x.nser) (i2 : ctG2 SS k = (b, o)) (i3 : o ≤ 126) (hk9 : x.nser - k = k9), ∀ (H : Heap) (locs : List Loc) (ls : Array Slot) (hP : va_P D vwCl (VW dA h ad x) H) (hD : va_D A (VW dA h ad x)) (hS : va_S A s.heap H locs) (hl : lv_has ls 5 [(3, .int (nI k)), (1, .int (nI b)), (2, .int (nI o)), (0, .ref h)]), W p l e ({ frames := 2, cells := 0, slots := 0, locals := 20 } : Room) s m ([.ref h] : List Value).toArray below meth c H locs 0 0 (MQ below (va_Qi (fun (r9 : Int32) (u9 : Unit) => r9 = nI (ctG2 SS x.nser).1) (fun (u9 : Unit) t9 => bW D A (VW dA h ad x) t9) A) ([.ref h] : List Value).toArray s 0 0 A) (F0 m 6 ls []) := by
    intro k9
    induction k9 using Nat.strongRecOn with
    | ind k9 ih6 =>
      intro k b o i1 i2 i3 hk9 H locs ls hP hD hS hl
      refine lv_iload_n hx hb d_V_catalogBlocks_6 rfl (lv_at hl 0 rfl) ?_
      refine lv_aload_n hx hb d_V_catalogBlocks_7 rfl (lv_at hl 3 rfl) ?_
      refine gF (v := .ref (ad 3)) hx hb hown hE hK hP 0 rfl rfl layV 11 (by decide) w297 rfl d_V_catalogBlocks_8 ?_
      refine gFN (v := .int (nI x.nser)) hx hb hown hE hK hP 17 rfl rfl layH 8 (by decide) w298 rfl d_V_catalogBlocks_11 ?_
      refine lv_icmp_ge hx hb d_V_catalogBlocks_14 (tgt := 51) rfl (fun g1 => ?_) (fun g1 => ?_)
      · have g1 := (nI_leI (a := x.nser) (b := k) (by omega) (by omega)).mp g1
        refine lv_iload_n hx hb d_V_catalogBlocks_51 rfl (lv_at hl 1 rfl) ?_
        exact rfI hx hb hr hlk hS () (by rw [← show k = x.nser by omega, i2]) hP hD (Nat.le_of_ble_eq_true rfl) (Nat.le_of_ble_eq_true rfl) d_V_catalogBlocks_52
      · have g1 := mt (nI_leI (a := x.nser) (b := k) (by omega) (by omega)).mpr g1
        obtain ⟨a1, ke, hs1, ho1⟩ := hkn k (by omega)
        have hs1c := hs1
        obtain ⟨na1, va1, no1, tx1, fn1, fv1, j1, j2, j3, wn1, wt1, he1⟩ := hs1c
        have wt1c := wt1
        obtain ⟨bx1, fx1, jx1, jx2, jy1, jf1⟩ := wt1c
        have jl1 := jt_le ho1
        have ul := uS_le ho1
        have ue : uS (SS k) = 1 + ((joinT (SS k)).length + 32 - 1) / 32 := rfl
        refine lv_aload_n hx hb d_V_catalogBlocks_17 rfl (lv_at hl 3 rfl) ?_
        refine gF (v := .ref (ad 17)) hx hb hown hE hK hP 0 rfl rfl layV 13 (by decide) w833 rfl d_V_catalogBlocks_18 ?_
        refine lv_iload_n hx hb d_V_catalogBlocks_21 rfl (lv_at hl 0 rfl) ?_
        refine nqld (f := x.kn) (n := 256) hx hb hK hP (31) 5 rfl rfl (k) (by omega) (by decide) ke d_V_catalogBlocks_22 ?_
        obtain ⟨qp2, ep3⟩ := List.getElem?_of_mem (show ((a1, .inr (11, [.ref na1, .ref va1, .ref no1, .ref tx1])) : Nat × va_E) ∈ VW dA h ad x from (plm j1))
        refine jkI (wr := []) (rnV (As := []) (rest := []) hx hb hml hown hE hK (hN _ _ hS) hP hD (v_Sunits l D dA H.size (VW dA h ad x) a1 (SS k) (isSer_m (fun _ hm => (plm hm)) hs1) ho1) (q0 := qp2) ep3 rfl w1324 w1323 w1325 w1326 w1288 rfl rfl ⟨⟨by decide, by decide⟩, rfl⟩ ⟨(Nat.le_of_ble_eq_true rfl), (Nat.le_of_ble_eq_true rfl)⟩ rfl hl.1 rfl (Nat.le_of_ble_eq_true rfl) d_V_catalogBlocks_23 ⟨(Nat.le_of_ble_eq_true rfl), (Nat.le_of_ble_eq_true rfl)⟩) hP hD hS hA (fun r4 u5 H locs hp9 hP hD hS => ?_)
        have hP : va_P D vwCl (VW dA h ad x) H := hP
        have hD : va_D A (VW dA h ad x) := hD
        replace hp9 : nI (1 + ((joinT (SS k)).length + 32 - 1) / 32) = r4 := Eq.symm hp9
        subst hp9
        refine lv_istore hx hb d_V_catalogBlocks_26 hl (by decide) rfl (fun ls hl => ?_)
        have hl : lv_has ls 5 [(4, .int (nI (1 + ((joinT (SS k)).length + 32 - 1) / 32))), (3, .int (nI k)), (1, .int (nI b)), (2, .int (nI o)), (0, .ref h)] := hl
        refine lv_iload hx hb d_V_catalogBlocks_28 (lv_at hl 0 rfl) ?_
        refine lv_iload_n hx hb d_V_catalogBlocks_30 rfl (lv_at hl 3 rfl) ?_
        refine lv_icmp_le hx hb d_V_catalogBlocks_31 (tgt := 40) rfl (fun g6 => ?_) (fun g6 => ?_)
        · have g6 := (nI_leI (a := 1 + ((joinT (SS k)).length + 32 - 1) / 32) (b := o) (by omega) (by omega)).mp g6
          refine lv_iload_n hx hb d_V_catalogBlocks_40 rfl (lv_at hl 3 rfl) ?_
          refine lv_iload hx hb d_V_catalogBlocks_41 (lv_at hl 0 rfl) ?_
          refine lv_isub hx hb d_V_catalogBlocks_43 (tpi (y := nI (o - (1 + ((joinT (SS k)).length + 32 - 1) / 32))) (pk_sub (a := o) (b := 1 + ((joinT (SS k)).length + 32 - 1) / 32) (by omega)) ?_)
          refine lv_istore_n hx hb d_V_catalogBlocks_44 rfl hl (by decide) rfl (fun ls hl => ?_)
          have hl : lv_has ls 5 [(2, .int (nI (o - (1 + ((joinT (SS k)).length + 32 - 1) / 32)))), (4, .int (nI (1 + ((joinT (SS k)).length + 32 - 1) / 32))), (3, .int (nI k)), (1, .int (nI b)), (0, .ref h)] := hl
          refine lv_iinc (k := 2) (v := nI (k + 1)) hx hb d_V_catalogBlocks_45 hl rfl (iincN (k) 1 1 (by decide)) (by decide) rfl (fun ls hl => ?_)
          have hl : lv_has ls 5 [(3, .int (nI (k + 1))), (2, .int (nI (o - (1 + ((joinT (SS k)).length + 32 - 1) / 32)))), (4, .int (nI (1 + ((joinT (SS k)).length + 32 - 1) / 32))), (1, .int (nI b)), (0, .ref h)] := hl
          refine lv_goto hx hb d_V_catalogBlocks_48 (tgt := 6) rfl ?_
          exact ih6 _ (by omega) (k + 1) b (o - (1 + ((joinT (SS k)).length + 32 - 1) / 32)) (by omega) (by show (if uS (SS k) ≤ (ctG2 SS k).2 then _ else _) = _; rw [i2]; exact if_pos g6) (by omega) rfl H _ ls hP hD hS (lv_sub hl [0, 3, 1, 4] rfl)
        · have g6 := mt (nI_leI (a := 1 + ((joinT (SS k)).length + 32 - 1) / 32) (b := o) (by omega) (by omega)).mpr g6
          refine lv_iinc (k := 2) (v := nI (b + 1)) hx hb d_V_catalogBlocks_34 hl rfl (iincN (b) 1 1 (by decide)) (by decide) rfl (fun ls hl => ?_)
          have hl : lv_has ls 5 [(1, .int (nI (b + 1))), (4, .int (nI (1 + ((joinT (SS k)).length + 32 - 1) / 32))), (3, .int (nI k)), (2, .int (nI o)), (0, .ref h)] := hl
          refine lv_bipush (v := 126) hx hb d_V_catalogBlocks_37 (by decide) ?_
          refine lv_istore_n hx hb d_V_catalogBlocks_39 rfl hl (by decide) rfl (fun ls hl => ?_)
          have hl : lv_has ls 5 [(2, .int 126), (1, .int (nI (b + 1))), (4, .int (nI (1 + ((joinT (SS k)).length + 32 - 1) / 32))), (3, .int (nI k)), (0, .ref h)] := hl
          refine lv_iload_n hx hb d_V_catalogBlocks_40 rfl (lv_at hl 0 rfl) ?_
          refine lv_iload hx hb d_V_catalogBlocks_41 (lv_at hl 2 rfl) ?_
          refine lv_isub hx hb d_V_catalogBlocks_43 (tpi (y := nI (126 - (1 + ((joinT (SS k)).length + 32 - 1) / 32))) (pk_sub (a := 126) (b := 1 + ((joinT (SS k)).length + 32 - 1) / 32) (by omega)) ?_)
          refine lv_istore_n hx hb d_V_catalogBlocks_44 rfl hl (by decide) rfl (fun ls hl => ?_)
          have hl : lv_has ls 5 [(2, .int (nI (126 - (1 + ((joinT (SS k)).length + 32 - 1) / 32)))), (1, .int (nI (b + 1))), (4, .int (nI (1 + ((joinT (SS k)).length + 32 - 1) / 32))), (3, .int (nI k)), (0, .ref h)] := hl
          refine lv_iinc (k := 3) (v := nI (k + 1)) hx hb d_V_catalogBlocks_45 hl rfl (iincN (k) 1 1 (by decide)) (by decide) rfl (fun ls hl => ?_)
          have hl : lv_has ls 5 [(3, .int (nI (k + 1))), (2, .int (nI (126 - (1 + ((joinT (SS k)).length + 32 - 1) / 32)))), (1, .int (nI (b + 1))), (4, .int (nI (1 + ((joinT (SS k)).length + 32 - 1) / 32))), (0, .ref h)] := hl
          refine lv_goto hx hb d_V_catalogBlocks_48 (tgt := 6) rfl ?_
          exact ih6 _ (by omega) (k + 1) (b + 1) (126 - (1 + ((joinT (SS k)).length + 32 - 1) / 32)) (by omega) (by show (if uS (SS k) ≤ (ctG2 SS k).2 then _ else _) = _; rw [i2]; exact if_neg g6) (by omega) rfl H _ ls hP hD hS (lv_sub hl [0, 2, 1, 4] rfl)
  exact L6 _ 0 0 0 (Nat.zero_le _) rfl (by omega) rfl H _ ls hP hD hS (lv_sub hl [0, 2, 1, 3] rfl)
theorem d_V_letter_9 : decode prog_1_method_26_code 9 = .ok (.aload_n 0, 1) := by decide +kernel
theorem d_V_letter_10 : decode prog_1_method_26_code 10 = .ok (.getfield 42, 3) := by decide +kernel
theorem d_V_letter_13 : decode prog_1_method_26_code 13 = .ok (.iload_n 1, 1) := by decide +kernel
theorem d_V_letter_14 : decode prog_1_method_26_code 14 = .ok (.aaload, 1) := by decide +kernel
theorem d_V_letter_15 : decode prog_1_method_26_code 15 = .ok (.getfield 225, 3) := by decide +kernel
theorem d_V_letter_18 : decode prog_1_method_26_code 18 = .ok (.iload_n 2, 1) := by decide +kernel
theorem d_V_letter_19 : decode prog_1_method_26_code 19 = .ok (.invokevirtual 247, 3) := by decide +kernel
theorem d_V_letter_22 : decode prog_1_method_26_code 22 = .ok (.ireturn, 1) := by decide +kernel
theorem w1327 : Cond.methodLink "SeriesVault" 247 ⟨"SeriesVault$Word", "at", "(I)I"⟩ ∈ aW := aw_of (tb_5 (List.mem_of_getElem? (i := 126) rfl)) rfl
theorem w1328 : Cond.code ⟨"SeriesVault$Word", "at", "(I)I"⟩ prog_12_method_2_code 2 (some FieldType.int) ∈ aW := aw_of (tb_5 (List.mem_of_getElem? (i := 129) rfl)) rfl
theorem w1329 : Cond.instanceMethod ⟨"SeriesVault$Word", "at", "(I)I"⟩ ∈ aW := aw_of (tb_5 (List.mem_of_getElem? (i := 127) rfl)) rfl
theorem w1330 : Cond.selects "SeriesVault$Word" ⟨"SeriesVault$Word", "at", "(I)I"⟩ ⟨"SeriesVault$Word", "at", "(I)I"⟩ ∈ aW := aw_of (tb_5 (List.mem_of_getElem? (i := 128) rfl)) rfl
set_option maxHeartbeats 4000000 in
set_option maxRecDepth 100000 in
theorem v_letter_n (l : Launch) (D : va_G) (dA : Nat → ClassId) (sz : Nat) (h : Nat) (ad : Nat → Nat) (x : VS) (SS : Nat → List LB) (w : Nat) (k : Int32) (hkn : knOk dA x.kn x.nser x.pl SS) (hn : x.nser ≤ 256) (ho : x.powered = true) (hw : w < x.nser) (h0 : k < 0 ∨ nI (joinT (SS w)).length ≤ k) : Met l ⟨"SeriesVault", "letter", "(II)I"⟩ [Cond.code ⟨"SeriesVault", "letter", "(II)I"⟩ prog_1_method_26_code 3 (some FieldType.int)] { frames := 2, cells := 0, slots := 0, locals := 21 } (pC D dA [.ref h, .int (nI w), .int k] (VW dA h ad x) sz) (va_Qi (fun (r9 : Int32) (u9 : Unit) => r9 = (-1)) (fun (u9 : Unit) t9 => bW D (va_A (VW dA h ad x) sz) (VW dA h ad x) t9) (va_A (VW dA h ad x) sz)) 0 0 (va_A (VW dA h ad x) sz) := by
  refine mkC (y := ⟨"SeriesVault", "letter", "(II)I"⟩) (cc := prog_1_method_26_code) (maxL := 3) (av := [.ref h, .int (nI w), .int k]) (ws := VW dA h ad x) (sz := sz) (Qc := fun A => va_Qi (fun (r9 : Int32) (u9 : Unit) => r9 = (-1)) (fun (u9 : Unit) t9 => bW D A (VW dA h ad x) t9) A) (by decide) (Nat.le_of_ble_eq_true rfl) ?_
  intro A p e s m below meth c ls hsz hB
  obtain ⟨hx, hb, hr, hml, hown, hin, hlk, hE, hK, hP, hD, hS, hA, hN, hl⟩ := hB
  have hown : s.vm.findClass "SeriesVault" = some m.cls := hown
  have hl : lv_has ls 3 [(0, .ref h), (1, .int (nI w)), (2, .int k)] := hl
  obtain ⟨H, hH⟩ : ∃ z, z = s.heap := ⟨_, rfl⟩
  have hP : va_P D vwCl (VW dA h ad x) H := by rw [hH]; exact hP
  have hS : va_S A s.heap H [] := by rw [hH]; exact hS
  rw [← hH]
  refine lv_aload_n hx hb d_V_letter_0 rfl (lv_at hl 0 rfl) ?_
  refine jkV (wr := []) (rnV (As := []) (rest := []) hx hb hml hown hE hK (hN _ _ hS) hP hD (v_checkPower l D dA H.size h ad x ho) (q0 := 0) rfl rfl w278 w276 w279 w280 w277 rfl rfl ⟨⟨by decide, by decide⟩, rfl⟩ ⟨(Nat.le_of_ble_eq_true rfl), (Nat.le_of_ble_eq_true rfl)⟩ rfl hl.1 rfl (Nat.le_of_ble_eq_true rfl) d_V_letter_1 ⟨(Nat.le_of_ble_eq_true rfl), (Nat.le_of_ble_eq_true rfl)⟩) hP hD hS hA (fun u2 H locs hp9 hP hD hS => ?_)
  have hP : va_P D vwCl (VW dA h ad x) H := hP
  have hD : va_D A (VW dA h ad x) := hD
  refine lv_aload_n hx hb d_V_letter_4 rfl (lv_at hl 0 rfl) ?_
  refine lv_iload_n hx hb d_V_letter_5 rfl (lv_at hl 1 rfl) ?_
  refine jkV (wr := []) (rnV (As := [.int (nI w)]) (rest := []) hx hb hml hown hE hK (hN _ _ hS) hP hD (v_checkSeries l D dA H.size h ad x w (show w < x.nser from by omega) (show x.nser ≤ 256 from by omega)) (q0 := 0) rfl rfl w300 w299 w301 w302 w277 rfl rfl ⟨⟨by decide, by decide⟩, rfl⟩ ⟨(Nat.le_of_ble_eq_true rfl), (Nat.le_of_ble_eq_true rfl)⟩ rfl hl.1 rfl (Nat.le_of_ble_eq_true rfl) d_V_letter_6 ⟨(Nat.le_of_ble_eq_true rfl), (Nat.le_of_ble_eq_true rfl)⟩) hP hD hS hA (fun u4 H locs hp9 hP hD hS => ?_)
  have hP : va_P D vwCl (VW dA h ad x) H := hP
  have hD : va_D A (VW dA h ad x) := hD
  obtain ⟨a1, ke, hs1, ho1⟩ := hkn w (by omega)
  have hs1c := hs1
  obtain ⟨na1, va1, no1, tx1, fn1, fv1, j1, j2, j3, wn1, wt1, he1⟩ := hs1c
  have wt1c := wt1
  obtain ⟨bx1, fx1, jx1, jx2, jy1, jf1⟩ := wt1c
  have jl1 := jt_le ho1
  refine lv_aload_n hx hb d_V_letter_9 rfl (lv_at hl 0 rfl) ?_
  refine gF (v := .ref (ad 17)) hx hb hown hE hK hP 0 rfl rfl layV 13 (by decide) w833 rfl d_V_letter_10 ?_
  refine lv_iload_n hx hb d_V_letter_13 rfl (lv_at hl 1 rfl) ?_
  refine nqld (f := x.kn) (n := 256) hx hb hK hP (31) 5 rfl rfl (w) (by omega) (by decide) ke d_V_letter_14 ?_
  obtain ⟨qp5, ep6⟩ := List.getElem?_of_mem (show ((a1, .inr (11, [.ref na1, .ref va1, .ref no1, .ref tx1])) : Nat × va_E) ∈ VW dA h ad x from (plm j1))
  refine gFN (v := .ref tx1) hx hb hown hE hK hP qp5 ep6 rfl layS 3 (by decide) w1321 rfl d_V_letter_15 ?_
  refine lv_iload_n hx hb d_V_letter_18 rfl (lv_at hl 2 rfl) ?_
  obtain ⟨qp7, ep8⟩ := List.getElem?_of_mem (show ((tx1, .inr (10, [.ref bx1])) : Nat × va_E) ∈ VW dA h ad x from (plm jx1))
  refine jkI (wr := []) (rnV (As := [.int k]) (rest := []) hx hb hml hown hE hK (hN _ _ hS) hP hD (v_Wat_n l D dA H.size (VW dA h ad x) tx1 (joinT (SS w)) k (isWo_m (fun _ hm => (plm hm)) wt1) (show (joinT (SS w)).length ≤ 65536 by omega) h0) (q0 := qp7) ep8 rfl w1328 w1327 w1329 w1330 w1281 rfl rfl ⟨⟨by decide, by decide⟩, rfl⟩ ⟨(Nat.le_of_ble_eq_true rfl), (Nat.le_of_ble_eq_true rfl)⟩ rfl hl.1 rfl (Nat.le_of_ble_eq_true rfl) d_V_letter_19 ⟨(Nat.le_of_ble_eq_true rfl), (Nat.le_of_ble_eq_true rfl)⟩) hP hD hS hA (fun r9 u10 H locs hp9 hP hD hS => ?_)
  have hP : va_P D vwCl (VW dA h ad x) H := hP
  have hD : va_D A (VW dA h ad x) := hD
  replace hp9 : (-1) = r9 := Eq.symm hp9
  subst hp9
  exact rfI hx hb hr hlk hS () rfl hP hD (Nat.le_of_ble_eq_true rfl) (Nat.le_of_ble_eq_true rfl) d_V_letter_22
set_option maxHeartbeats 4000000 in
set_option maxRecDepth 100000 in
theorem v_letter_0 (l : Launch) (D : va_G) (dA : Nat → ClassId) (sz : Nat) (h : Nat) (ad : Nat → Nat) (x : VS) (SS : Nat → List LB) (w : Nat) (k : Nat) (hkn : knOk dA x.kn x.nser x.pl SS) (hn : x.nser ≤ 256) (ho : x.powered = true) (hw : w < x.nser) (h0 : k < (joinT (SS w)).length) : Met l ⟨"SeriesVault", "letter", "(II)I"⟩ [Cond.code ⟨"SeriesVault", "letter", "(II)I"⟩ prog_1_method_26_code 3 (some FieldType.int)] { frames := 2, cells := 0, slots := 0, locals := 21 } (pC D dA [.ref h, .int (nI w), .int (nI k)] (VW dA h ad x) sz) (va_Qi (fun (r9 : Int32) (u9 : Unit) => r9 = (joinT (SS w)).getD k 0 &&& 255) (fun (u9 : Unit) t9 => bW D (va_A (VW dA h ad x) sz) (VW dA h ad x) t9) (va_A (VW dA h ad x) sz)) 0 0 (va_A (VW dA h ad x) sz) := by
  refine mkC (y := ⟨"SeriesVault", "letter", "(II)I"⟩) (cc := prog_1_method_26_code) (maxL := 3) (av := [.ref h, .int (nI w), .int (nI k)]) (ws := VW dA h ad x) (sz := sz) (Qc := fun A => va_Qi (fun (r9 : Int32) (u9 : Unit) => r9 = (joinT (SS w)).getD k 0 &&& 255) (fun (u9 : Unit) t9 => bW D A (VW dA h ad x) t9) A) (by decide) (Nat.le_of_ble_eq_true rfl) ?_
  intro A p e s m below meth c ls hsz hB
  obtain ⟨hx, hb, hr, hml, hown, hin, hlk, hE, hK, hP, hD, hS, hA, hN, hl⟩ := hB
  have hown : s.vm.findClass "SeriesVault" = some m.cls := hown
  have hl : lv_has ls 3 [(0, .ref h), (1, .int (nI w)), (2, .int (nI k))] := hl
  obtain ⟨H, hH⟩ : ∃ z, z = s.heap := ⟨_, rfl⟩
  have hP : va_P D vwCl (VW dA h ad x) H := by rw [hH]; exact hP
  have hS : va_S A s.heap H [] := by rw [hH]; exact hS
  rw [← hH]
  refine lv_aload_n hx hb d_V_letter_0 rfl (lv_at hl 0 rfl) ?_
  refine jkV (wr := []) (rnV (As := []) (rest := []) hx hb hml hown hE hK (hN _ _ hS) hP hD (v_checkPower l D dA H.size h ad x ho) (q0 := 0) rfl rfl w278 w276 w279 w280 w277 rfl rfl ⟨⟨by decide, by decide⟩, rfl⟩ ⟨(Nat.le_of_ble_eq_true rfl), (Nat.le_of_ble_eq_true rfl)⟩ rfl hl.1 rfl (Nat.le_of_ble_eq_true rfl) d_V_letter_1 ⟨(Nat.le_of_ble_eq_true rfl), (Nat.le_of_ble_eq_true rfl)⟩) hP hD hS hA (fun u2 H locs hp9 hP hD hS => ?_)
  have hP : va_P D vwCl (VW dA h ad x) H := hP
  have hD : va_D A (VW dA h ad x) := hD
  refine lv_aload_n hx hb d_V_letter_4 rfl (lv_at hl 0 rfl) ?_
  refine lv_iload_n hx hb d_V_letter_5 rfl (lv_at hl 1 rfl) ?_
  refine jkV (wr := []) (rnV (As := [.int (nI w)]) (rest := []) hx hb hml hown hE hK (hN _ _ hS) hP hD (v_checkSeries l D dA H.size h ad x w (show w < x.nser from by omega) (show x.nser ≤ 256 from by omega)) (q0 := 0) rfl rfl w300 w299 w301 w302 w277 rfl rfl ⟨⟨by decide, by decide⟩, rfl⟩ ⟨(Nat.le_of_ble_eq_true rfl), (Nat.le_of_ble_eq_true rfl)⟩ rfl hl.1 rfl (Nat.le_of_ble_eq_true rfl) d_V_letter_6 ⟨(Nat.le_of_ble_eq_true rfl), (Nat.le_of_ble_eq_true rfl)⟩) hP hD hS hA (fun u4 H locs hp9 hP hD hS => ?_)
  have hP : va_P D vwCl (VW dA h ad x) H := hP
  have hD : va_D A (VW dA h ad x) := hD
  obtain ⟨a1, ke, hs1, ho1⟩ := hkn w (by omega)
  have hs1c := hs1
  obtain ⟨na1, va1, no1, tx1, fn1, fv1, j1, j2, j3, wn1, wt1, he1⟩ := hs1c
  have wt1c := wt1
  obtain ⟨bx1, fx1, jx1, jx2, jy1, jf1⟩ := wt1c
  have jl1 := jt_le ho1
  refine lv_aload_n hx hb d_V_letter_9 rfl (lv_at hl 0 rfl) ?_
  refine gF (v := .ref (ad 17)) hx hb hown hE hK hP 0 rfl rfl layV 13 (by decide) w833 rfl d_V_letter_10 ?_
  refine lv_iload_n hx hb d_V_letter_13 rfl (lv_at hl 1 rfl) ?_
  refine nqld (f := x.kn) (n := 256) hx hb hK hP (31) 5 rfl rfl (w) (by omega) (by decide) ke d_V_letter_14 ?_
  obtain ⟨qp5, ep6⟩ := List.getElem?_of_mem (show ((a1, .inr (11, [.ref na1, .ref va1, .ref no1, .ref tx1])) : Nat × va_E) ∈ VW dA h ad x from (plm j1))
  refine gFN (v := .ref tx1) hx hb hown hE hK hP qp5 ep6 rfl layS 3 (by decide) w1321 rfl d_V_letter_15 ?_
  refine lv_iload_n hx hb d_V_letter_18 rfl (lv_at hl 2 rfl) ?_
  obtain ⟨qp7, ep8⟩ := List.getElem?_of_mem (show ((tx1, .inr (10, [.ref bx1])) : Nat × va_E) ∈ VW dA h ad x from (plm jx1))
  refine jkI (wr := []) (rnV (As := [.int (nI k)]) (rest := []) hx hb hml hown hE hK (hN _ _ hS) hP hD (v_Wat l D dA H.size (VW dA h ad x) tx1 (joinT (SS w)) k (isWo_m (fun _ hm => (plm hm)) wt1) (show (joinT (SS w)).length ≤ 65536 by omega) h0) (q0 := qp7) ep8 rfl w1328 w1327 w1329 w1330 w1281 rfl rfl ⟨⟨by decide, by decide⟩, rfl⟩ ⟨(Nat.le_of_ble_eq_true rfl), (Nat.le_of_ble_eq_true rfl)⟩ rfl hl.1 rfl (Nat.le_of_ble_eq_true rfl) d_V_letter_19 ⟨(Nat.le_of_ble_eq_true rfl), (Nat.le_of_ble_eq_true rfl)⟩) hP hD hS hA (fun r9 u10 H locs hp9 hP hD hS => ?_)
  have hP : va_P D vwCl (VW dA h ad x) H := hP
  have hD : va_D A (VW dA h ad x) := hD
  replace hp9 : (joinT (SS w)).getD k 0 &&& 255 = r9 := Eq.symm hp9
  subst hp9
  exact rfI hx hb hr hlk hS () rfl hP hD (Nat.le_of_ble_eq_true rfl) (Nat.le_of_ble_eq_true rfl) d_V_letter_22
set_option maxHeartbeats 4000000 in
set_option maxRecDepth 100000 in
theorem v_letter_1 (l : Launch) (htr : l.stackTraces = false) (D : va_G) (dA : Nat → ClassId) (sz : Nat) (h : Nat) (ad : Nat → Nat) (x : VS) (n : Int32) (k : Int32) (ho : x.powered = false) : mX l ⟨"SeriesVault", "letter", "(II)I"⟩ [Cond.code ⟨"SeriesVault", "letter", "(II)I"⟩ prog_1_method_26_code 3 (some FieldType.int)] { frames := 7, cells := 1, slots := 6, locals := 101 } (pC D dA [.ref h, .int n, .int k] (VW dA h ad x) sz) "java/lang/IllegalStateException" (fun st9 t9 => va_F (va_A (VW dA h ad x) sz) st9 t9 ∧ bW D (va_A (VW dA h ad x) sz) (VW dA h ad x) t9) 1 6 (va_A (VW dA h ad x) sz) := by
  refine mkX (y := ⟨"SeriesVault", "letter", "(II)I"⟩) (cc := prog_1_method_26_code) (maxL := 3) (av := [.ref h, .int n, .int k]) (ws := VW dA h ad x) (sz := sz) (B := fun A => (fun st9 t9 => va_F A st9 t9 ∧ bW D A (VW dA h ad x) t9)) (by decide) (Nat.le_of_ble_eq_true rfl) ?_
  intro A p e s m below meth c ls hsz hno hB
  obtain ⟨hx, hb, hr, hml, hown, hin, hlk, hE, hK, hP, hD, hS, hA, hN, hl⟩ := hB
  have hown : s.vm.findClass "SeriesVault" = some m.cls := hown
  have hl : lv_has ls 3 [(0, .ref h), (1, .int n), (2, .int k)] := hl
  obtain ⟨H, hH⟩ : ∃ z, z = s.heap := ⟨_, rfl⟩
  have hP : va_P D vwCl (VW dA h ad x) H := by rw [hH]; exact hP
  have hS : va_S A s.heap H [] := by rw [hH]; exact hS
  rw [← hH]
  refine lv_aload_n hx hb d_V_letter_0 rfl (lv_at hl 0 rfl) ?_
  refine xfV (w1 := VW dA h ad x) (As := []) (rest := []) hx hb hml hown hE hK (hN _ _ hS) (v_checkPower_x l htr D dA H.size h ad x ho) (q0 := 0) rfl rfl w278 w276 w279 w280 w277 rfl rfl ⟨⟨by decide, by decide⟩, rfl⟩ ⟨(Nat.le_of_ble_eq_true rfl), (Nat.le_of_ble_eq_true rfl)⟩ rfl hl.1 rfl (Nat.le_of_ble_eq_true rfl) d_V_letter_1 ⟨(Nat.le_of_ble_eq_true rfl), (Nat.le_of_ble_eq_true rfl)⟩ hP hD hS hA (fun xa1 ce H locs hP hD hS hce hcv hcl => ?_)
  exact xOut hno hlk hce hcv hcl (fun t ht => xEndV hP hD hS t (by rw [ht]; exact Nat.le_refl _) (fun q _ => by rw [ht])) hS.2.2 (Nat.le_of_ble_eq_true rfl) (Nat.le_of_ble_eq_true rfl)
set_option maxHeartbeats 4000000 in
set_option maxRecDepth 100000 in
theorem v_letter_2 (l : Launch) (htr : l.stackTraces = false) (D : va_G) (dA : Nat → ClassId) (sz : Nat) (h : Nat) (ad : Nat → Nat) (x : VS) (n : Int32) (k : Int32) (ho : x.powered = true) (h0 : n < 0 ∨ nI x.nser ≤ n) : mX l ⟨"SeriesVault", "letter", "(II)I"⟩ [Cond.code ⟨"SeriesVault", "letter", "(II)I"⟩ prog_1_method_26_code 3 (some FieldType.int)] { frames := 7, cells := 1, slots := 6, locals := 102 } (pC D dA [.ref h, .int n, .int k] (VW dA h ad x) sz) "java/lang/IndexOutOfBoundsException" (fun st9 t9 => va_F (va_A (VW dA h ad x) sz) st9 t9 ∧ bW D (va_A (VW dA h ad x) sz) (VW dA h ad x) t9) 1 6 (va_A (VW dA h ad x) sz) := by
  refine mkX (y := ⟨"SeriesVault", "letter", "(II)I"⟩) (cc := prog_1_method_26_code) (maxL := 3) (av := [.ref h, .int n, .int k]) (ws := VW dA h ad x) (sz := sz) (B := fun A => (fun st9 t9 => va_F A st9 t9 ∧ bW D A (VW dA h ad x) t9)) (by decide) (Nat.le_of_ble_eq_true rfl) ?_
  intro A p e s m below meth c ls hsz hno hB
  obtain ⟨hx, hb, hr, hml, hown, hin, hlk, hE, hK, hP, hD, hS, hA, hN, hl⟩ := hB
  have hown : s.vm.findClass "SeriesVault" = some m.cls := hown
  have hl : lv_has ls 3 [(0, .ref h), (1, .int n), (2, .int k)] := hl
  obtain ⟨H, hH⟩ : ∃ z, z = s.heap := ⟨_, rfl⟩
  have hP : va_P D vwCl (VW dA h ad x) H := by rw [hH]; exact hP
  have hS : va_S A s.heap H [] := by rw [hH]; exact hS
  rw [← hH]
  refine lv_aload_n hx hb d_V_letter_0 rfl (lv_at hl 0 rfl) ?_
  refine jfV (rnV (As := []) (rest := []) hx hb hml hown hE hK (hN _ _ hS) hP hD (v_checkPower l D dA H.size h ad x ho) (q0 := 0) rfl rfl w278 w276 w279 w280 w277 rfl rfl ⟨⟨by decide, by decide⟩, rfl⟩ ⟨(Nat.le_of_ble_eq_true rfl), (Nat.le_of_ble_eq_true rfl)⟩ rfl hl.1 rfl (Nat.le_of_ble_eq_true rfl) d_V_letter_1 ⟨(Nat.le_of_ble_eq_true rfl), (Nat.le_of_ble_eq_true rfl)⟩) hP hD hS hA (fun u2 H locs hp9 hP hD hS => ?_)
  have hP : va_P D vwCl (VW dA h ad x) H := hP
  have hD : va_D A (VW dA h ad x) := hD
  refine lv_aload_n hx hb d_V_letter_4 rfl (lv_at hl 0 rfl) ?_
  refine lv_iload_n hx hb d_V_letter_5 rfl (lv_at hl 1 rfl) ?_
  refine xfV (w1 := VW dA h ad x) (As := [.int n]) (rest := []) hx hb hml hown hE hK (hN _ _ hS) (v_checkSeries_x l htr D dA H.size h ad x n h0) (q0 := 0) rfl rfl w300 w299 w301 w302 w277 rfl rfl ⟨⟨by decide, by decide⟩, rfl⟩ ⟨(Nat.le_of_ble_eq_true rfl), (Nat.le_of_ble_eq_true rfl)⟩ rfl hl.1 rfl (Nat.le_of_ble_eq_true rfl) d_V_letter_6 ⟨(Nat.le_of_ble_eq_true rfl), (Nat.le_of_ble_eq_true rfl)⟩ hP hD hS hA (fun xa3 ce H locs hP hD hS hce hcv hcl => ?_)
  exact xOut hno hlk hce hcv hcl (fun t ht => xEndV hP hD hS t (by rw [ht]; exact Nat.le_refl _) (fun q _ => by rw [ht])) hS.2.2 (Nat.le_of_ble_eq_true rfl) (Nat.le_of_ble_eq_true rfl)
def VS.anS (x : VS) (a : Nat) : VS := VS.s_nser (VS.s_nlast (VS.s_kn x (va_up x.kn x.nser (some a))) (va_up x.nlast x.nser (-1))) (x.nser + 1)
theorem wrF_k (x : VS) (ja : Nat → Nat) (kd w n : Nat) (a b : Int64) : (x.wrF ja kd w n a b).pl = x.pl ∧ (x.wrF ja kd w n a b).kn = x.kn ∧ (x.wrF ja kd w n a b).nser = x.nser ∧ (x.wrF ja kd w n a b).nlast = x.nlast := by
  unfold VS.wrF VS.wrB VS.wjS VS.jadF
  repeat' split
  all_goals exact ⟨rfl, rfl, rfl, rfl⟩
theorem d_V_addNewSeries_0 : decode prog_1_method_25_code 0 = .ok (.aload_n 0, 1) := by decide +kernel
theorem d_V_addNewSeries_1 : decode prog_1_method_25_code 1 = .ok (.getfield 33, 3) := by decide +kernel
theorem d_V_addNewSeries_4 : decode prog_1_method_25_code 4 = .ok (.getfield 130, 3) := by decide +kernel
theorem d_V_addNewSeries_7 : decode prog_1_method_25_code 7 = .ok (.istore_n 2, 1) := by decide +kernel
theorem d_V_addNewSeries_8 : decode prog_1_method_25_code 8 = .ok (.iload_n 2, 1) := by decide +kernel
theorem d_V_addNewSeries_9 : decode prog_1_method_25_code 9 = .ok (.sipush 256, 3) := by decide +kernel
theorem d_V_addNewSeries_12 : decode prog_1_method_25_code 12 = .ok (.if_icmp .ge 17, 3) := by decide +kernel
theorem d_V_addNewSeries_15 : decode prog_1_method_25_code 15 = .ok (.aload_n 0, 1) := by decide +kernel
theorem d_V_addNewSeries_16 : decode prog_1_method_25_code 16 = .ok (.getfield 16, 3) := by decide +kernel
theorem d_V_addNewSeries_19 : decode prog_1_method_25_code 19 = .ok (.aload_n 1, 1) := by decide +kernel
theorem d_V_addNewSeries_20 : decode prog_1_method_25_code 20 = .ok (.invokevirtual 235, 3) := by decide +kernel
theorem d_V_addNewSeries_23 : decode prog_1_method_25_code 23 = .ok (.invokevirtual 238, 3) := by decide +kernel
theorem d_V_addNewSeries_26 : decode prog_1_method_25_code 26 = .ok (.ifCond .ne 11, 3) := by decide +kernel
theorem d_V_addNewSeries_37 : decode prog_1_method_25_code 37 = .ok (.aload_n 0, 1) := by decide +kernel
theorem d_V_addNewSeries_38 : decode prog_1_method_25_code 38 = .ok (.iconst 0, 1) := by decide +kernel
theorem d_V_addNewSeries_39 : decode prog_1_method_25_code 39 = .ok (.iload_n 2, 1) := by decide +kernel
theorem d_V_addNewSeries_40 : decode prog_1_method_25_code 40 = .ok (.aload_n 1, 1) := by decide +kernel
theorem d_V_addNewSeries_41 : decode prog_1_method_25_code 41 = .ok (.invokevirtual 235, 3) := by decide +kernel
theorem d_V_addNewSeries_44 : decode prog_1_method_25_code 44 = .ok (.lconst 0, 1) := by decide +kernel
theorem d_V_addNewSeries_45 : decode prog_1_method_25_code 45 = .ok (.lconst 0, 1) := by decide +kernel
theorem d_V_addNewSeries_46 : decode prog_1_method_25_code 46 = .ok (.invokevirtual 241, 3) := by decide +kernel
theorem d_V_addNewSeries_49 : decode prog_1_method_25_code 49 = .ok (.aload_n 0, 1) := by decide +kernel
theorem d_V_addNewSeries_50 : decode prog_1_method_25_code 50 = .ok (.getfield 42, 3) := by decide +kernel
theorem d_V_addNewSeries_53 : decode prog_1_method_25_code 53 = .ok (.iload_n 2, 1) := by decide +kernel
theorem d_V_addNewSeries_54 : decode prog_1_method_25_code 54 = .ok (.aload_n 1, 1) := by decide +kernel
theorem d_V_addNewSeries_55 : decode prog_1_method_25_code 55 = .ok (.aastore, 1) := by decide +kernel
theorem d_V_addNewSeries_56 : decode prog_1_method_25_code 56 = .ok (.aload_n 0, 1) := by decide +kernel
theorem d_V_addNewSeries_57 : decode prog_1_method_25_code 57 = .ok (.getfield 33, 3) := by decide +kernel
theorem d_V_addNewSeries_60 : decode prog_1_method_25_code 60 = .ok (.invokevirtual 166, 3) := by decide +kernel
theorem d_V_addNewSeries_63 : decode prog_1_method_25_code 63 = .ok (.return_, 1) := by decide +kernel
theorem w1331 : Cond.methodLink "SeriesVault" 166 ⟨"SeriesVault$Shelf", "addSeries", "()V"⟩ ∈ aW := aw_of (tb_5 (List.mem_of_getElem? (i := 87) rfl)) rfl
theorem w1332 : Cond.code ⟨"SeriesVault$Shelf", "addSeries", "()V"⟩ prog_9_method_5_code 1 none ∈ aW := aw_of (tb_5 (List.mem_of_getElem? (i := 90) rfl)) rfl
theorem w1333 : Cond.instanceMethod ⟨"SeriesVault$Shelf", "addSeries", "()V"⟩ ∈ aW := aw_of (tb_5 (List.mem_of_getElem? (i := 88) rfl)) rfl
theorem w1334 : Cond.selects "SeriesVault$Shelf" ⟨"SeriesVault$Shelf", "addSeries", "()V"⟩ ⟨"SeriesVault$Shelf", "addSeries", "()V"⟩ ∈ aW := aw_of (tb_5 (List.mem_of_getElem? (i := 89) rfl)) rfl
set_option maxHeartbeats 4000000 in
set_option maxRecDepth 100000 in
theorem v_addNewSeries (l : Launch) (D : va_G) (dA : Nat → ClassId) (sz : Nat) (h : Nat) (ad : Nat → Nat) (x : VS) (a : Nat) (S : List LB) (hsr : isSer dA x.pl a S) (hso : serOk S) (hbu : x.jblock + 1 < 2 ^ 31) (hlu : x.jlimit < 2 ^ 31) (hfl : x.jfill ≤ 126) (hs1 : x.jsize ≤ x.jN) (hs2 : 0 < x.jN) (hs3 : x.jN ≤ 65536) (hx0 : x.nser < 256) (hro : x.room (1 + ((joinT S).length + 32 - 1) / 32) = true) (hcr : x.jfill + (1 + ((joinT S).length + 32 - 1) / 32) ≤ 126 ∨ x.jch = false ∨ ¬ x.cutLeft = 0) : Met l ⟨"SeriesVault", "addNewSeries", "(LSeriesVault$Series;)V"⟩ [Cond.code ⟨"SeriesVault", "addNewSeries", "(LSeriesVault$Series;)V"⟩ prog_1_method_25_code 3 none] { frames := 5, cells := 6 * (x.jcap - x.jN), slots := 12 * (x.jcap - x.jN), locals := 136 } (pC D dA [.ref h, .ref a] (VW dA h ad x) sz) (va_Qv (fun (u9 : VS) => (∃ ja : Nat → Nat, u9 = (x.wrF ja 0 x.nser (1 + ((joinT S).length + 32 - 1) / 32) 0 0).anS a)) (fun (u9 : VS) t9 => bW D (va_A (VW dA h ad x) sz) (VW dA h ad u9) t9) (va_A (VW dA h ad x) sz)) (6 * (x.jcap - x.jN)) (12 * (x.jcap - x.jN)) (va_A (VW dA h ad x) sz) := by
  refine mkC (y := ⟨"SeriesVault", "addNewSeries", "(LSeriesVault$Series;)V"⟩) (cc := prog_1_method_25_code) (maxL := 3) (av := [.ref h, .ref a]) (ws := VW dA h ad x) (sz := sz) (Qc := fun A => va_Qv (fun (u9 : VS) => (∃ ja : Nat → Nat, u9 = (x.wrF ja 0 x.nser (1 + ((joinT S).length + 32 - 1) / 32) 0 0).anS a)) (fun (u9 : VS) t9 => bW D A (VW dA h ad u9) t9) A) (by decide) (Nat.le_of_ble_eq_true rfl) ?_
  intro A p e s m below meth c ls hsz hB
  obtain ⟨hx, hb, hr, hml, hown, hin, hlk, hE, hK, hP, hD, hS, hA, hN, hl⟩ := hB
  have hown : s.vm.findClass "SeriesVault" = some m.cls := hown
  have hl : lv_has ls 3 [(0, .ref h), (1, .ref a)] := hl
  obtain ⟨H, hH⟩ : ∃ z, z = s.heap := ⟨_, rfl⟩
  have hP : va_P D vwCl (VW dA h ad x) H := by rw [hH]; exact hP
  have hS : va_S A s.heap H [] := by rw [hH]; exact hS
  rw [← hH]
  have hsrc := hsr
  obtain ⟨na, va, no, tx, fn, fv, n1, n2, n3, wno, wtx, hel⟩ := hsrc
  have wtxc := wtx
  obtain ⟨b_tx, f_tx, m1tx, m2tx, y_tx, hf_tx⟩ := wtxc
  have jl := jt_le hso
  refine lv_aload_n hx hb d_V_addNewSeries_0 rfl (lv_at hl 0 rfl) ?_
  refine gF (v := .ref (ad 3)) hx hb hown hE hK hP 0 rfl rfl layV 11 (by decide) w297 rfl d_V_addNewSeries_1 ?_
  refine gFN (v := .int (nI x.nser)) hx hb hown hE hK hP 17 rfl rfl layH 8 (by decide) w298 rfl d_V_addNewSeries_4 ?_
  refine lv_istore_n hx hb d_V_addNewSeries_7 rfl hl (by decide) rfl (fun ls hl => ?_)
  have hl : lv_has ls 3 [(2, .int (nI x.nser)), (0, .ref h), (1, .ref a)] := hl
  refine lv_iload_n hx hb d_V_addNewSeries_8 rfl (lv_at hl 0 rfl) ?_
  refine lv_sipush (v := 256) hx hb d_V_addNewSeries_9 (by decide) ?_
  refine lv_icmp_ge hx hb d_V_addNewSeries_12 (tgt := 29) rfl (fun h9 => absurd h9 (mt (nI_leI (a := 256) (b := x.nser) (by omega) (by omega)).mp (Nat.not_le.mpr hx0))) (fun _ => ?_)
  refine lv_aload_n hx hb d_V_addNewSeries_15 rfl (lv_at hl 1 rfl) ?_
  refine gF (v := .ref (ad 0)) hx hb hown hE hK hP 0 rfl rfl layV 8 (by decide) w312 rfl d_V_addNewSeries_16 ?_
  refine lv_aload_n hx hb d_V_addNewSeries_19 rfl (lv_at hl 2 rfl) ?_
  obtain ⟨qp1, ep2⟩ := List.getElem?_of_mem (show ((a, .inr (11, [.ref na, .ref va, .ref no, .ref tx])) : Nat × va_E) ∈ VW dA h ad x from (plm n1))
  refine jkI (wr := []) (rnV (As := []) (rest := [.ref (ad 0)]) hx hb hml hown hE hK (hN _ _ hS) hP hD (v_Sunits l D dA H.size (VW dA h ad x) a S (isSer_m (fun _ hm => (plm hm)) hsr) hso) (q0 := qp1) ep2 rfl w1324 w1323 w1325 w1326 w1288 rfl rfl ⟨⟨by decide, by decide⟩, rfl⟩ ⟨(Nat.le_of_ble_eq_true rfl), (Nat.le_of_ble_eq_true rfl)⟩ rfl hl.1 rfl (Nat.le_of_ble_eq_true rfl) d_V_addNewSeries_20 ⟨(show 0 + 0 ≤ 6 * (x.jcap - x.jN) by omega), (show 0 + 0 ≤ 12 * (x.jcap - x.jN) by omega)⟩) hP hD hS hA (fun r3 u4 H locs hp9 hP hD hS => ?_)
  have hP : va_P D vwCl (VW dA h ad x) H := hP
  have hD : va_D A (VW dA h ad x) := hD
  replace hp9 : nI (1 + ((joinT S).length + 32 - 1) / 32) = r3 := Eq.symm hp9
  subst hp9
  refine jkI (wr := []) (rnV (As := [.int (nI (1 + ((joinT S).length + 32 - 1) / 32))]) (rest := []) hx hb hml hown hE hK (hN _ _ hS) hP hD (v_jhasRoom l D dA H.size h ad x (1 + ((joinT S).length + 32 - 1) / 32) (show x.jfill + (1 + ((joinT S).length + 32 - 1) / 32) < 2 ^ 31 from by omega) (show x.jblock + 1 < 2 ^ 31 from by omega) (show x.jlimit < 2 ^ 31 from by omega)) (q0 := 2) rfl rfl w1163 w1162 w1164 w1165 w556 rfl rfl ⟨⟨by decide, by decide⟩, rfl⟩ ⟨(Nat.le_of_ble_eq_true rfl), (Nat.le_of_ble_eq_true rfl)⟩ rfl hl.1 rfl (Nat.le_of_ble_eq_true rfl) d_V_addNewSeries_23 ⟨(show 0 + 0 + 0 ≤ 6 * (x.jcap - x.jN) by omega), (show 0 + 0 + 0 ≤ 12 * (x.jcap - x.jN) by omega)⟩) hP hD hS hA (fun r5 u6 H locs hp9 hP hD hS => ?_)
  have hP : va_P D vwCl (VW dA h ad x) H := hP
  have hD : va_D A (VW dA h ad x) := hD
  replace hp9 : bI (x.room (1 + ((joinT S).length + 32 - 1) / 32)) = r5 := Eq.symm hp9
  subst hp9
  refine lv_if_ne hx hb d_V_addNewSeries_26 (tgt := 37) rfl (fun _ => ?_) (fun h9 => absurd h9 (by rw [hro]; decide))
  refine lv_aload_n hx hb d_V_addNewSeries_37 rfl (lv_at hl 1 rfl) ?_
  refine lv_iconst (v := 0) hx hb d_V_addNewSeries_38 (by decide) ?_
  refine lv_iload_n hx hb d_V_addNewSeries_39 rfl (lv_at hl 0 rfl) ?_
  refine lv_aload_n hx hb d_V_addNewSeries_40 rfl (lv_at hl 2 rfl) ?_
  obtain ⟨qp7, ep8⟩ := List.getElem?_of_mem (show ((a, .inr (11, [.ref na, .ref va, .ref no, .ref tx])) : Nat × va_E) ∈ VW dA h ad x from (plm n1))
  refine jkI (wr := []) (rnV (As := []) (rest := [.int (nI x.nser), .int 0, .ref h]) hx hb hml hown hE hK (hN _ _ hS) hP hD (v_Sunits l D dA H.size (VW dA h ad x) a S (isSer_m (fun _ hm => (plm hm)) hsr) hso) (q0 := qp7) ep8 rfl w1324 w1323 w1325 w1326 w1288 rfl rfl ⟨⟨by decide, by decide⟩, rfl⟩ ⟨(Nat.le_of_ble_eq_true rfl), (Nat.le_of_ble_eq_true rfl)⟩ rfl hl.1 rfl (Nat.le_of_ble_eq_true rfl) d_V_addNewSeries_41 ⟨(show 0 + 0 + 0 + 0 ≤ 6 * (x.jcap - x.jN) by omega), (show 0 + 0 + 0 + 0 ≤ 12 * (x.jcap - x.jN) by omega)⟩) hP hD hS hA (fun r9 u10 H locs hp9 hP hD hS => ?_)
  have hP : va_P D vwCl (VW dA h ad x) H := hP
  have hD : va_D A (VW dA h ad x) := hD
  replace hp9 : nI (1 + ((joinT S).length + 32 - 1) / 32) = r9 := Eq.symm hp9
  subst hp9
  refine lv_lconst (v := 0) hx hb d_V_addNewSeries_44 (by decide) ?_
  refine lv_lconst (v := 0) hx hb d_V_addNewSeries_45 (by decide) ?_
  refine jkV (wr := []) (rnV (As := [.int 0, .int (nI x.nser), .int (nI (1 + ((joinT S).length + 32 - 1) / 32)), .long 0, .long 0]) (rest := []) hx hb hml hown hE hK (hN _ _ hS) hP hD (v_writeRecord l D dA H.size h ad x 0 x.nser (1 + ((joinT S).length + 32 - 1) / 32) 0 0 (show x.jsize ≤ x.jN from by omega) (show 0 < x.jN from by omega) (show x.jN ≤ 65536 from by omega) (show x.jfill + (1 + ((joinT S).length + 32 - 1) / 32) < 2 ^ 31 from by omega) hcr) (q0 := 0) rfl rfl w1133 w1132 w1134 w1135 w277 rfl rfl ⟨⟨by decide, by decide⟩, rfl⟩ ⟨(Nat.le_of_ble_eq_true rfl), (Nat.le_of_ble_eq_true rfl)⟩ rfl hl.1 rfl (Nat.le_of_ble_eq_true rfl) d_V_addNewSeries_46 ⟨(show 0 + 0 + 0 + 0 + (6 * (x.jcap - x.jN)) ≤ 6 * (x.jcap - x.jN) by omega), (show 0 + 0 + 0 + 0 + (12 * (x.jcap - x.jN)) ≤ 12 * (x.jcap - x.jN) by omega)⟩) hP hD hS hA (fun u12 H locs hp9 hP hD hS => ?_)
  obtain ⟨y13, h9u⟩ : ∃ z9, z9 = u12 := ⟨_, rfl⟩
  subst h9u
  have hP : va_P D vwCl (VW dA h ad y13) H := hP
  have hD : va_D A (VW dA h ad y13) := hD
  have f_e_14 := hp9
  obtain ⟨ja, eja⟩ := f_e_14
  obtain ⟨z1, z2, z3, z4⟩ := wrF_k x ja 0 x.nser (1 + ((joinT S).length + 32 - 1) / 32) 0 0
  rw [← eja] at z1 z2 z3 z4
  rw [← z1] at n1
  refine lv_aload_n hx hb d_V_addNewSeries_49 rfl (lv_at hl 1 rfl) ?_
  refine gF (v := .ref (ad 17)) hx hb hown hE hK hP 0 rfl rfl layV 13 (by decide) w833 rfl d_V_addNewSeries_50 ?_
  refine lv_iload_n hx hb d_V_addNewSeries_53 rfl (lv_at hl 0 rfl) ?_
  refine lv_aload_n hx hb d_V_addNewSeries_54 rfl (lv_at hl 2 rfl) ?_
  obtain ⟨qp15, ep16⟩ := List.getElem?_of_mem (show ((a, .inr (11, [.ref na, .ref va, .ref no, .ref tx])) : Nat × va_E) ∈ VW dA h ad y13 from (plm n1))
  refine nqst (r := ("SeriesVault$Series", TS, 4)) (f := y13.kn) (n := 256) hx hb hK hP hD hS (31) 5 (qp15) 11 rfl rfl ep16 rfl (x.nser) (show x.nser < 256 by omega) (by decide) d_V_addNewSeries_55 (fun H locs hP hD hS => ?_)
  have hP : va_P D vwCl (VW dA h ad (VS.s_kn y13 (va_up y13.kn x.nser (some a)))) H := hP
  have hD : va_D A (VW dA h ad (VS.s_kn y13 (va_up y13.kn x.nser (some a)))) := hD
  refine lv_aload_n hx hb d_V_addNewSeries_56 rfl (lv_at hl 1 rfl) ?_
  refine gF (v := .ref (ad 3)) hx hb hown hE hK hP 0 rfl rfl layV 11 (by decide) w297 rfl d_V_addNewSeries_57 ?_
  refine jkV (wr := []) (rnV (As := []) (rest := []) hx hb hml hown hE hK (hN _ _ hS) hP hD (v_addSeries l D dA H.size h ad (VS.s_kn y13 (va_up y13.kn x.nser (some a))) (show y13.nser < 256 from by omega)) (q0 := 17) rfl rfl w1332 w1331 w1333 w1334 w583 rfl rfl ⟨⟨by decide, by decide⟩, rfl⟩ ⟨(Nat.le_of_ble_eq_true rfl), (Nat.le_of_ble_eq_true rfl)⟩ rfl hl.1 rfl (Nat.le_of_ble_eq_true rfl) d_V_addNewSeries_60 ⟨(show 0 + 0 + 0 + 0 + (6 * (x.jcap - x.jN)) + 0 ≤ 6 * (x.jcap - x.jN) by omega), (show 0 + 0 + 0 + 0 + (12 * (x.jcap - x.jN)) + 0 ≤ 12 * (x.jcap - x.jN) by omega)⟩) hP hD hS hA (fun u18 H locs hp9 hP hD hS => ?_)
  have hP : va_P D vwCl (VW dA h ad (VS.s_kn (VS.s_nlast (VS.s_nser y13 (y13.nser + 1)) (va_up y13.nlast y13.nser (-1))) (va_up y13.kn x.nser (some a)))) H := hP
  have hD : va_D A (VW dA h ad (VS.s_kn (VS.s_nlast (VS.s_nser y13 (y13.nser + 1)) (va_up y13.nlast y13.nser (-1))) (va_up y13.kn x.nser (some a)))) := hD
  exact rfV hx hb hr hlk hS (VS.s_kn (VS.s_nlast (VS.s_nser y13 (y13.nser + 1)) (va_up y13.nlast y13.nser (-1))) (va_up y13.kn x.nser (some a))) ⟨ja, by rw [← eja]; show _ = _; unfold VS.anS; rw [z3]⟩ hP hD (show 0 + 0 + 0 + 0 + (6 * (x.jcap - x.jN)) + 0 ≤ 6 * (x.jcap - x.jN) by omega) (show 0 + 0 + 0 + 0 + (12 * (x.jcap - x.jN)) + 0 ≤ 12 * (x.jcap - x.jN) by omega) d_V_addNewSeries_63
theorem d_V_addNewSeries_29 : decode prog_1_method_25_code 29 = .ok (.new 76, 3) := by decide +kernel
theorem d_V_addNewSeries_32 : decode prog_1_method_25_code 32 = .ok (.dup, 1) := by decide +kernel
theorem d_V_addNewSeries_33 : decode prog_1_method_25_code 33 = .ok (.invokespecial 78, 3) := by decide +kernel
theorem d_V_addNewSeries_36 : decode prog_1_method_25_code 36 = .ok (.athrow, 1) := by decide +kernel
set_option maxHeartbeats 4000000 in
set_option maxRecDepth 100000 in
theorem v_addNewSeries_u (l : Launch) (htr : l.stackTraces = false) (D : va_G) (dA : Nat → ClassId) (sz : Nat) (h : Nat) (ad : Nat → Nat) (x : VS) (a : Nat) (S : List LB) (hsr : isSer dA x.pl a S) (hso : serOk S) (hbu : x.jblock + 1 < 2 ^ 31) (hlu : x.jlimit < 2 ^ 31) (hfl : x.jfill ≤ 126) (hx0 : x.nser ≤ 256) (hro : x.nser < 256 → x.room (1 + ((joinT S).length + 32 - 1) / 32) = false) : mX l ⟨"SeriesVault", "addNewSeries", "(LSeriesVault$Series;)V"⟩ [Cond.code ⟨"SeriesVault", "addNewSeries", "(LSeriesVault$Series;)V"⟩ prog_1_method_25_code 3 none] { frames := 6, cells := 1, slots := 6, locals := 81 } (pC D dA [.ref h, .ref a] (VW dA h ad x) sz) "java/lang/UnsupportedOperationException" (fun st9 t9 => va_F (va_A (VW dA h ad x) sz) st9 t9 ∧ ∃ u9 : Unit, (True) ∧ bW D (va_A (VW dA h ad x) sz) (VW dA h ad x) t9) 1 6 (va_A (VW dA h ad x) sz) := by
  refine mkX (y := ⟨"SeriesVault", "addNewSeries", "(LSeriesVault$Series;)V"⟩) (cc := prog_1_method_25_code) (maxL := 3) (av := [.ref h, .ref a]) (ws := VW dA h ad x) (sz := sz) (B := fun A => (fun st9 t9 => va_F A st9 t9 ∧ ∃ u9 : Unit, (True) ∧ bW D A (VW dA h ad x) t9)) (by decide) (Nat.le_of_ble_eq_true rfl) ?_
  intro A p e s m below meth c ls hsz hno hB
  obtain ⟨hx, hb, hr, hml, hown, hin, hlk, hE, hK, hP, hD, hS, hA, hN, hl⟩ := hB
  have hown : s.vm.findClass "SeriesVault" = some m.cls := hown
  have hl : lv_has ls 3 [(0, .ref h), (1, .ref a)] := hl
  obtain ⟨H, hH⟩ : ∃ z, z = s.heap := ⟨_, rfl⟩
  have hP : va_P D vwCl (VW dA h ad x) H := by rw [hH]; exact hP
  have hS : va_S A s.heap H [] := by rw [hH]; exact hS
  rw [← hH]
  have hsrc := hsr
  obtain ⟨na, va, no, tx, fn, fv, n1, n2, n3, wno, wtx, hel⟩ := hsrc
  have wtxc := wtx
  obtain ⟨b_tx, f_tx, m1tx, m2tx, y_tx, hf_tx⟩ := wtxc
  have jl := jt_le hso
  refine lv_aload_n hx hb d_V_addNewSeries_0 rfl (lv_at hl 0 rfl) ?_
  refine gF (v := .ref (ad 3)) hx hb hown hE hK hP 0 rfl rfl layV 11 (by decide) w297 rfl d_V_addNewSeries_1 ?_
  refine gFN (v := .int (nI x.nser)) hx hb hown hE hK hP 17 rfl rfl layH 8 (by decide) w298 rfl d_V_addNewSeries_4 ?_
  refine lv_istore_n hx hb d_V_addNewSeries_7 rfl hl (by decide) rfl (fun ls hl => ?_)
  have hl : lv_has ls 3 [(2, .int (nI x.nser)), (0, .ref h), (1, .ref a)] := hl
  refine lv_iload_n hx hb d_V_addNewSeries_8 rfl (lv_at hl 0 rfl) ?_
  refine lv_sipush (v := 256) hx hb d_V_addNewSeries_9 (by decide) ?_
  refine lv_icmp_ge hx hb d_V_addNewSeries_12 (tgt := 29) rfl (fun g1 => ?_) (fun g1 => ?_)
  · have g1 := (nI_leI (a := 256) (b := x.nser) (by omega) (by omega)).mp g1
    exact xNew (E := "java/lang/UnsupportedOperationException") (names := ["java/lang/RuntimeException", "java/lang/Exception"]) hx hb htr hown (by decide) (by decide) hE w1156 w1157 (fun U hU => at_V_UOE hU) (hN _ _ hS) (hl.1.trans hml.symm) d_V_addNewSeries_29 d_V_addNewSeries_32 d_V_addNewSeries_33 d_V_addNewSeries_36 hno (by decide) (Nat.le_of_ble_eq_true rfl) (show 0 + 1 ≤ 1 by omega) (show 0 + 6 ≤ 6 by omega) hlk (fun t h1 h2 => xkE () trivial hP hD hS t h1 h2) hS.2.2 (show 0 + 1 ≤ 1 by omega) (show 0 + 6 ≤ 6 by omega)
  · have g1 := mt (nI_leI (a := 256) (b := x.nser) (by omega) (by omega)).mpr g1
    refine lv_aload_n hx hb d_V_addNewSeries_15 rfl (lv_at hl 1 rfl) ?_
    refine gF (v := .ref (ad 0)) hx hb hown hE hK hP 0 rfl rfl layV 8 (by decide) w312 rfl d_V_addNewSeries_16 ?_
    refine lv_aload_n hx hb d_V_addNewSeries_19 rfl (lv_at hl 2 rfl) ?_
    obtain ⟨qp2, ep3⟩ := List.getElem?_of_mem (show ((a, .inr (11, [.ref na, .ref va, .ref no, .ref tx])) : Nat × va_E) ∈ VW dA h ad x from (plm n1))
    refine jkI (wr := []) (rnV (As := []) (rest := [.ref (ad 0)]) hx hb hml hown hE hK (hN _ _ hS) hP hD (v_Sunits l D dA H.size (VW dA h ad x) a S (isSer_m (fun _ hm => (plm hm)) hsr) hso) (q0 := qp2) ep3 rfl w1324 w1323 w1325 w1326 w1288 rfl rfl ⟨⟨by decide, by decide⟩, rfl⟩ ⟨(Nat.le_of_ble_eq_true rfl), (Nat.le_of_ble_eq_true rfl)⟩ rfl hl.1 rfl (Nat.le_of_ble_eq_true rfl) d_V_addNewSeries_20 ⟨(show 0 + 0 ≤ 1 by omega), (show 0 + 0 ≤ 6 by omega)⟩) hP hD hS hA (fun r4 u5 H locs hp9 hP hD hS => ?_)
    have hP : va_P D vwCl (VW dA h ad x) H := hP
    have hD : va_D A (VW dA h ad x) := hD
    replace hp9 : nI (1 + ((joinT S).length + 32 - 1) / 32) = r4 := Eq.symm hp9
    subst hp9
    refine jkI (wr := []) (rnV (As := [.int (nI (1 + ((joinT S).length + 32 - 1) / 32))]) (rest := []) hx hb hml hown hE hK (hN _ _ hS) hP hD (v_jhasRoom l D dA H.size h ad x (1 + ((joinT S).length + 32 - 1) / 32) (show x.jfill + (1 + ((joinT S).length + 32 - 1) / 32) < 2 ^ 31 from by omega) (show x.jblock + 1 < 2 ^ 31 from by omega) (show x.jlimit < 2 ^ 31 from by omega)) (q0 := 2) rfl rfl w1163 w1162 w1164 w1165 w556 rfl rfl ⟨⟨by decide, by decide⟩, rfl⟩ ⟨(Nat.le_of_ble_eq_true rfl), (Nat.le_of_ble_eq_true rfl)⟩ rfl hl.1 rfl (Nat.le_of_ble_eq_true rfl) d_V_addNewSeries_23 ⟨(show 0 + 0 + 0 ≤ 1 by omega), (show 0 + 0 + 0 ≤ 6 by omega)⟩) hP hD hS hA (fun r6 u7 H locs hp9 hP hD hS => ?_)
    have hP : va_P D vwCl (VW dA h ad x) H := hP
    have hD : va_D A (VW dA h ad x) := hD
    replace hp9 : bI (x.room (1 + ((joinT S).length + 32 - 1) / 32)) = r6 := Eq.symm hp9
    subst hp9
    refine lv_if_ne hx hb d_V_addNewSeries_26 (tgt := 37) rfl (fun h9 => absurd (by rw [hro (by omega)]; decide) h9) (fun _ => ?_)
    exact xNew (E := "java/lang/UnsupportedOperationException") (names := ["java/lang/RuntimeException", "java/lang/Exception"]) hx hb htr hown (by decide) (by decide) hE w1156 w1157 (fun U hU => at_V_UOE hU) (hN _ _ hS) (hl.1.trans hml.symm) d_V_addNewSeries_29 d_V_addNewSeries_32 d_V_addNewSeries_33 d_V_addNewSeries_36 hno (by decide) (Nat.le_of_ble_eq_true rfl) (show 0 + 0 + 0 + 1 ≤ 1 by omega) (show 0 + 0 + 0 + 6 ≤ 6 by omega) hlk (fun t h1 h2 => xkE () trivial hP hD hS t h1 h2) hS.2.2 (show 0 + 0 + 0 + 1 ≤ 1 by omega) (show 0 + 0 + 0 + 6 ≤ 6 by omega)
set_option maxHeartbeats 4000000 in
set_option maxRecDepth 100000 in
theorem v_addNewSeries_i (l : Launch) (htr : l.stackTraces = false) (D : va_G) (dA : Nat → ClassId) (sz : Nat) (h : Nat) (ad : Nat → Nat) (x : VS) (a : Nat) (S : List LB) (hsr : isSer dA x.pl a S) (hso : serOk S) (hbu : x.jblock + 1 < 2 ^ 31) (hlu : x.jlimit < 2 ^ 31) (hfl : x.jfill ≤ 126) (hx0 : x.nser < 256) (hro : x.room (1 + ((joinT S).length + 32 - 1) / 32) = true) (c1 : 126 < x.jfill + (1 + ((joinT S).length + 32 - 1) / 32)) (hc2 : x.jch = true) (hc : x.cutLeft = 0) : mX l ⟨"SeriesVault", "addNewSeries", "(LSeriesVault$Series;)V"⟩ [Cond.code ⟨"SeriesVault", "addNewSeries", "(LSeriesVault$Series;)V"⟩ prog_1_method_25_code 3 none] { frames := 9, cells := 1, slots := 6, locals := 148 } (pC D dA [.ref h, .ref a] (VW dA h ad x) sz) "java/lang/IllegalStateException" (fun st9 t9 => va_F (va_A (VW dA h ad x) sz) st9 t9 ∧ ∃ u9 : Unit, (True) ∧ bW D (va_A (VW dA h ad x) sz) (VW dA h ad (VS.s_cutLeft (VS.s_powered x false) (-1))) t9) 1 6 (va_A (VW dA h ad x) sz) := by
  refine mkX (y := ⟨"SeriesVault", "addNewSeries", "(LSeriesVault$Series;)V"⟩) (cc := prog_1_method_25_code) (maxL := 3) (av := [.ref h, .ref a]) (ws := VW dA h ad x) (sz := sz) (B := fun A => (fun st9 t9 => va_F A st9 t9 ∧ ∃ u9 : Unit, (True) ∧ bW D A (VW dA h ad (VS.s_cutLeft (VS.s_powered x false) (-1))) t9)) (by decide) (Nat.le_of_ble_eq_true rfl) ?_
  intro A p e s m below meth c ls hsz hno hB
  obtain ⟨hx, hb, hr, hml, hown, hin, hlk, hE, hK, hP, hD, hS, hA, hN, hl⟩ := hB
  have hown : s.vm.findClass "SeriesVault" = some m.cls := hown
  have hl : lv_has ls 3 [(0, .ref h), (1, .ref a)] := hl
  obtain ⟨H, hH⟩ : ∃ z, z = s.heap := ⟨_, rfl⟩
  have hP : va_P D vwCl (VW dA h ad x) H := by rw [hH]; exact hP
  have hS : va_S A s.heap H [] := by rw [hH]; exact hS
  rw [← hH]
  have hsrc := hsr
  obtain ⟨na, va, no, tx, fn, fv, n1, n2, n3, wno, wtx, hel⟩ := hsrc
  have wtxc := wtx
  obtain ⟨b_tx, f_tx, m1tx, m2tx, y_tx, hf_tx⟩ := wtxc
  have jl := jt_le hso
  refine lv_aload_n hx hb d_V_addNewSeries_0 rfl (lv_at hl 0 rfl) ?_
  refine gF (v := .ref (ad 3)) hx hb hown hE hK hP 0 rfl rfl layV 11 (by decide) w297 rfl d_V_addNewSeries_1 ?_
  refine gFN (v := .int (nI x.nser)) hx hb hown hE hK hP 17 rfl rfl layH 8 (by decide) w298 rfl d_V_addNewSeries_4 ?_
  refine lv_istore_n hx hb d_V_addNewSeries_7 rfl hl (by decide) rfl (fun ls hl => ?_)
  have hl : lv_has ls 3 [(2, .int (nI x.nser)), (0, .ref h), (1, .ref a)] := hl
  refine lv_iload_n hx hb d_V_addNewSeries_8 rfl (lv_at hl 0 rfl) ?_
  refine lv_sipush (v := 256) hx hb d_V_addNewSeries_9 (by decide) ?_
  refine lv_icmp_ge hx hb d_V_addNewSeries_12 (tgt := 29) rfl (fun h9 => absurd h9 (mt (nI_leI (a := 256) (b := x.nser) (by omega) (by omega)).mp (Nat.not_le.mpr hx0))) (fun _ => ?_)
  refine lv_aload_n hx hb d_V_addNewSeries_15 rfl (lv_at hl 1 rfl) ?_
  refine gF (v := .ref (ad 0)) hx hb hown hE hK hP 0 rfl rfl layV 8 (by decide) w312 rfl d_V_addNewSeries_16 ?_
  refine lv_aload_n hx hb d_V_addNewSeries_19 rfl (lv_at hl 2 rfl) ?_
  obtain ⟨qp1, ep2⟩ := List.getElem?_of_mem (show ((a, .inr (11, [.ref na, .ref va, .ref no, .ref tx])) : Nat × va_E) ∈ VW dA h ad x from (plm n1))
  refine jkI (wr := []) (rnV (As := []) (rest := [.ref (ad 0)]) hx hb hml hown hE hK (hN _ _ hS) hP hD (v_Sunits l D dA H.size (VW dA h ad x) a S (isSer_m (fun _ hm => (plm hm)) hsr) hso) (q0 := qp1) ep2 rfl w1324 w1323 w1325 w1326 w1288 rfl rfl ⟨⟨by decide, by decide⟩, rfl⟩ ⟨(Nat.le_of_ble_eq_true rfl), (Nat.le_of_ble_eq_true rfl)⟩ rfl hl.1 rfl (Nat.le_of_ble_eq_true rfl) d_V_addNewSeries_20 ⟨(show 0 + 0 ≤ 1 by omega), (show 0 + 0 ≤ 6 by omega)⟩) hP hD hS hA (fun r3 u4 H locs hp9 hP hD hS => ?_)
  have hP : va_P D vwCl (VW dA h ad x) H := hP
  have hD : va_D A (VW dA h ad x) := hD
  replace hp9 : nI (1 + ((joinT S).length + 32 - 1) / 32) = r3 := Eq.symm hp9
  subst hp9
  refine jkI (wr := []) (rnV (As := [.int (nI (1 + ((joinT S).length + 32 - 1) / 32))]) (rest := []) hx hb hml hown hE hK (hN _ _ hS) hP hD (v_jhasRoom l D dA H.size h ad x (1 + ((joinT S).length + 32 - 1) / 32) (show x.jfill + (1 + ((joinT S).length + 32 - 1) / 32) < 2 ^ 31 from by omega) (show x.jblock + 1 < 2 ^ 31 from by omega) (show x.jlimit < 2 ^ 31 from by omega)) (q0 := 2) rfl rfl w1163 w1162 w1164 w1165 w556 rfl rfl ⟨⟨by decide, by decide⟩, rfl⟩ ⟨(Nat.le_of_ble_eq_true rfl), (Nat.le_of_ble_eq_true rfl)⟩ rfl hl.1 rfl (Nat.le_of_ble_eq_true rfl) d_V_addNewSeries_23 ⟨(show 0 + 0 + 0 ≤ 1 by omega), (show 0 + 0 + 0 ≤ 6 by omega)⟩) hP hD hS hA (fun r5 u6 H locs hp9 hP hD hS => ?_)
  have hP : va_P D vwCl (VW dA h ad x) H := hP
  have hD : va_D A (VW dA h ad x) := hD
  replace hp9 : bI (x.room (1 + ((joinT S).length + 32 - 1) / 32)) = r5 := Eq.symm hp9
  subst hp9
  refine lv_if_ne hx hb d_V_addNewSeries_26 (tgt := 37) rfl (fun _ => ?_) (fun h9 => absurd h9 (by rw [hro]; decide))
  refine lv_aload_n hx hb d_V_addNewSeries_37 rfl (lv_at hl 1 rfl) ?_
  refine lv_iconst (v := 0) hx hb d_V_addNewSeries_38 (by decide) ?_
  refine lv_iload_n hx hb d_V_addNewSeries_39 rfl (lv_at hl 0 rfl) ?_
  refine lv_aload_n hx hb d_V_addNewSeries_40 rfl (lv_at hl 2 rfl) ?_
  obtain ⟨qp7, ep8⟩ := List.getElem?_of_mem (show ((a, .inr (11, [.ref na, .ref va, .ref no, .ref tx])) : Nat × va_E) ∈ VW dA h ad x from (plm n1))
  refine jkI (wr := []) (rnV (As := []) (rest := [.int (nI x.nser), .int 0, .ref h]) hx hb hml hown hE hK (hN _ _ hS) hP hD (v_Sunits l D dA H.size (VW dA h ad x) a S (isSer_m (fun _ hm => (plm hm)) hsr) hso) (q0 := qp7) ep8 rfl w1324 w1323 w1325 w1326 w1288 rfl rfl ⟨⟨by decide, by decide⟩, rfl⟩ ⟨(Nat.le_of_ble_eq_true rfl), (Nat.le_of_ble_eq_true rfl)⟩ rfl hl.1 rfl (Nat.le_of_ble_eq_true rfl) d_V_addNewSeries_41 ⟨(show 0 + 0 + 0 + 0 ≤ 1 by omega), (show 0 + 0 + 0 + 0 ≤ 6 by omega)⟩) hP hD hS hA (fun r9 u10 H locs hp9 hP hD hS => ?_)
  have hP : va_P D vwCl (VW dA h ad x) H := hP
  have hD : va_D A (VW dA h ad x) := hD
  replace hp9 : nI (1 + ((joinT S).length + 32 - 1) / 32) = r9 := Eq.symm hp9
  subst hp9
  refine lv_lconst (v := 0) hx hb d_V_addNewSeries_44 (by decide) ?_
  refine lv_lconst (v := 0) hx hb d_V_addNewSeries_45 (by decide) ?_
  refine xfV (w1 := VW dA h ad (VS.s_cutLeft (VS.s_powered x false) (-1))) (As := [.int 0, .int (nI x.nser), .int (nI (1 + ((joinT S).length + 32 - 1) / 32)), .long 0, .long 0]) (rest := []) hx hb hml hown hE hK (hN _ _ hS) (v_writeRecord_x l htr D dA H.size h ad x 0 x.nser (1 + ((joinT S).length + 32 - 1) / 32) 0 0 (show x.jfill + (1 + ((joinT S).length + 32 - 1) / 32) < 2 ^ 31 from by omega) (show 126 < x.jfill + (1 + ((joinT S).length + 32 - 1) / 32) from by omega) hc2 hc) (q0 := 0) rfl rfl w1133 w1132 w1134 w1135 w277 rfl rfl ⟨⟨by decide, by decide⟩, rfl⟩ ⟨(Nat.le_of_ble_eq_true rfl), (Nat.le_of_ble_eq_true rfl)⟩ rfl hl.1 rfl (Nat.le_of_ble_eq_true rfl) d_V_addNewSeries_46 ⟨(show 0 + 0 + 0 + 0 + 1 ≤ 1 by omega), (show 0 + 0 + 0 + 0 + 6 ≤ 6 by omega)⟩ hP hD hS hA (fun xa11 ce H locs hP hD hS hce hcv hcl => ?_)
  have hP : va_P D vwCl (VW dA h ad (VS.s_cutLeft (VS.s_powered x false) (-1))) H := hP
  have hD : va_D A (VW dA h ad (VS.s_cutLeft (VS.s_powered x false) (-1))) := hD
  exact xOut hno hlk hce hcv hcl (fun t ht => xkE () trivial hP hD hS t (by rw [ht]; exact Nat.le_refl _) (fun q _ => by rw [ht])) hS.2.2 (show 0 + 0 + 0 + 0 + 1 ≤ 1 by omega) (show 0 + 0 + 0 + 0 + 6 ≤ 6 by omega)
end
