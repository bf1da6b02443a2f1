/-! Contracts in one form. -/
section NF
variable {l : Launch} {y : MethodName} {ws : List Cond} {rm : Room} {Pc Pc2 : Nat → Array Value → State → Prop} {D : va_G} {dA : Nat → ClassId} {W0 : va_W} {h : Nat} {ad : Nat → Nat} {mc ms : Nat} {S : Type} {F : VS → Prop}
theorem mX_w {Pd Pe : Array Value → State → Prop} {E : String} {B B' : State → State → Prop} {free : Addr → Prop} (h : mX l y ws rm Pd E B mc ms free) (hB : ∀ st t, B st t → B' st t) (hP : ∀ a st, Pe a st → Pd a st) : mX l y ws rm Pe E B' mc ms free := by
  intro p e ha hc hk s m args below hs hap hpre hK
  obtain ⟨n, o, a1, a2, a3, x, ce, r1, r2, r3, r4, r5, r6, r7⟩ := h p e ha hc hk s m args below hs hap (hP _ _ hpre) hK
  exact ⟨n, o, a1, a2, a3, x, ce, r1, r2, r3, r4, r5, r6, hB _ _ r7⟩
theorem nf_i {post : Int32 → S → Prop} {w : S → VS} {v : Int32} (hm : ∀ sz, Met l y ws rm (Pc sz) (va_Qi post (fun u t => bW D (va_A W0 sz) (VW dA h ad (w u)) t) (va_A W0 sz)) mc ms (va_A W0 sz)) (hF : ∀ r u, post r u → r = v ∧ F (w u)) (hP : ∀ sz a st, Pc2 sz a st → Pc sz a st) : ∀ sz, Met l y ws rm (Pc2 sz) (va_Qi (fun (r : Int32) (u : VS) => r = v ∧ F u) (fun (u : VS) t => bW D (va_A W0 sz) (VW dA h ad u) t) (va_A W0 sz)) mc ms (va_A W0 sz) := by
  intro sz
  refine Met_mono (hm sz) (Nat.le_refl _) (Nat.le_refl _) (Nat.le_refl _) (Nat.le_refl _) (Nat.le_refl _) (Nat.le_refl _) (hP sz) ?_ (fun _ q => q)
  rintro a st o t ⟨⟨r, u, c1, c2, c3⟩, c4⟩
  exact ⟨⟨r, w u, c1, hF r u c2, c3⟩, c4⟩
theorem nf_l {post : Int64 → S → Prop} {w : S → VS} {v : Int64} (hm : ∀ sz, Met l y ws rm (Pc sz) (va_Ql post (fun u t => bW D (va_A W0 sz) (VW dA h ad (w u)) t) (va_A W0 sz)) mc ms (va_A W0 sz)) (hF : ∀ r u, post r u → r = v ∧ F (w u)) (hP : ∀ sz a st, Pc2 sz a st → Pc sz a st) : ∀ sz, Met l y ws rm (Pc2 sz) (va_Ql (fun (r : Int64) (u : VS) => r = v ∧ F u) (fun (u : VS) t => bW D (va_A W0 sz) (VW dA h ad u) t) (va_A W0 sz)) mc ms (va_A W0 sz) := by
  intro sz
  refine Met_mono (hm sz) (Nat.le_refl _) (Nat.le_refl _) (Nat.le_refl _) (Nat.le_refl _) (Nat.le_refl _) (Nat.le_refl _) (hP sz) ?_ (fun _ q => q)
  rintro a st o t ⟨⟨r, u, c1, c2, c3⟩, c4⟩
  exact ⟨⟨r, w u, c1, hF r u c2, c3⟩, c4⟩
theorem nf_v {post : S → Prop} {w : S → VS} (hm : ∀ sz, Met l y ws rm (Pc sz) (va_Qv post (fun u t => bW D (va_A W0 sz) (VW dA h ad (w u)) t) (va_A W0 sz)) mc ms (va_A W0 sz)) (hF : ∀ u, post u → F (w u)) (hP : ∀ sz a st, Pc2 sz a st → Pc sz a st) : ∀ sz, Met l y ws rm (Pc2 sz) (va_Qv (fun (u : VS) => F u) (fun (u : VS) t => bW D (va_A W0 sz) (VW dA h ad u) t) (va_A W0 sz)) mc ms (va_A W0 sz) := by
  intro sz
  refine Met_mono (hm sz) (Nat.le_refl _) (Nat.le_refl _) (Nat.le_refl _) (Nat.le_refl _) (Nat.le_refl _) (Nat.le_refl _) (hP sz) ?_ (fun _ q => q)
  rintro a st o t ⟨⟨u, c1, c2, c3⟩, c4⟩
  exact ⟨⟨w u, c1, hF u c2, c3⟩, c4⟩
theorem nf_x0 {E : String} {X : VS} (hm : ∀ sz, mX l y ws rm (Pc sz) E (fun st t => va_F (va_A W0 sz) st t ∧ bW D (va_A W0 sz) (VW dA h ad X) t) mc ms (va_A W0 sz)) (hF : F X) (hP : ∀ sz a st, Pc2 sz a st → Pc sz a st) : ∀ sz, mX l y ws rm (Pc2 sz) E (fun st t => va_F (va_A W0 sz) st t ∧ ∃ u : VS, F u ∧ bW D (va_A W0 sz) (VW dA h ad u) t) mc ms (va_A W0 sz) :=
  fun sz => mX_w (hm sz) (fun st t q => ⟨q.1, X, hF, q.2⟩) (hP sz)
theorem nf_x1 {E : String} {post : S → Prop} {w : S → VS} (hm : ∀ sz, mX l y ws rm (Pc sz) E (fun st t => va_F (va_A W0 sz) st t ∧ ∃ u : S, post u ∧ bW D (va_A W0 sz) (VW dA h ad (w u)) t) mc ms (va_A W0 sz)) (hF : ∀ u, post u → F (w u)) (hP : ∀ sz a st, Pc2 sz a st → Pc sz a st) : ∀ sz, mX l y ws rm (Pc2 sz) E (fun st t => va_F (va_A W0 sz) st t ∧ ∃ u : VS, F u ∧ bW D (va_A W0 sz) (VW dA h ad u) t) mc ms (va_A W0 sz) :=
  fun sz => mX_w (hm sz) (fun st t q => by
    obtain ⟨q1, u, q2, q3⟩ := q
    exact ⟨q1, w u, hF u q2, q3⟩) (hP sz)
/-- the reference's -/
theorem nm_v {mad : Nat → Nat} {M1 : MS} {post : S → Prop} {w : S → MS} (hm : ∀ sz, Met l y ws rm (Pc sz) (va_Qv post (fun u t => bW D (va_A W0 sz) (MW dA h mad (w u)) t) (va_A W0 sz)) mc ms (va_A W0 sz)) (hF : ∀ u, post u → w u = M1) (hP : ∀ sz a st, Pc2 sz a st → Pc sz a st) : ∀ sz, Met l y ws rm (Pc2 sz) (va_Qv (fun (_ : Unit) => True) (fun (_ : Unit) t => bW D (va_A W0 sz) (MW dA h mad M1) t) (va_A W0 sz)) mc ms (va_A W0 sz) := by
  intro sz
  refine Met_mono (hm sz) (Nat.le_refl _) (Nat.le_refl _) (Nat.le_refl _) (Nat.le_refl _) (Nat.le_refl _) (Nat.le_refl _) (hP sz) ?_ (fun _ q => q)
  rintro a st o t ⟨⟨u, c1, c2, c3⟩, c4⟩
  rw [hF u c2] at c3
  exact ⟨⟨(), c1, trivial, c3⟩, c4⟩
theorem nm_i {mad : Nat → Nat} {M1 : MS} {b : Int32} {post : Int32 → S → Prop} {w : S → MS} (hm : ∀ sz, Met l y ws rm (Pc sz) (va_Qi post (fun u t => bW D (va_A W0 sz) (MW dA h mad (w u)) t) (va_A W0 sz)) mc ms (va_A W0 sz)) (hF : ∀ r u, post r u → r = b ∧ w u = M1) (hP : ∀ sz a st, Pc2 sz a st → Pc sz a st) : ∀ sz, Met l y ws rm (Pc2 sz) (va_Qi (fun (r : Int32) (_ : Unit) => r = b) (fun (_ : Unit) t => bW D (va_A W0 sz) (MW dA h mad M1) t) (va_A W0 sz)) mc ms (va_A W0 sz) := by
  intro sz
  refine Met_mono (hm sz) (Nat.le_refl _) (Nat.le_refl _) (Nat.le_refl _) (Nat.le_refl _) (Nat.le_refl _) (Nat.le_refl _) (hP sz) ?_ (fun _ q => q)
  rintro a st o t ⟨⟨r, u, c1, c2, c3⟩, c4⟩
  obtain ⟨d1, d2⟩ := hF r u c2
  rw [d2] at c3
  exact ⟨⟨r, (), c1, d1, c3⟩, c4⟩
theorem nm_l {mad : Nat → Nat} {M1 : MS} {b : Int64} {post : Int64 → S → Prop} {w : S → MS} (hm : ∀ sz, Met l y ws rm (Pc sz) (va_Ql post (fun u t => bW D (va_A W0 sz) (MW dA h mad (w u)) t) (va_A W0 sz)) mc ms (va_A W0 sz)) (hF : ∀ r u, post r u → r = b ∧ w u = M1) (hP : ∀ sz a st, Pc2 sz a st → Pc sz a st) : ∀ sz, Met l y ws rm (Pc2 sz) (va_Ql (fun (r : Int64) (_ : Unit) => r = b) (fun (_ : Unit) t => bW D (va_A W0 sz) (MW dA h mad M1) t) (va_A W0 sz)) mc ms (va_A W0 sz) := by
  intro sz
  refine Met_mono (hm sz) (Nat.le_refl _) (Nat.le_refl _) (Nat.le_refl _) (Nat.le_refl _) (Nat.le_refl _) (Nat.le_refl _) (hP sz) ?_ (fun _ q => q)
  rintro a st o t ⟨⟨r, u, c1, c2, c3⟩, c4⟩
  obtain ⟨d1, d2⟩ := hF r u c2
  rw [d2] at c3
  exact ⟨⟨r, (), c1, d1, c3⟩, c4⟩
end NF
