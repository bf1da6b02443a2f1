theorem metI {l : Launch} {y : MethodName} {ws : List Cond} {rm : Room} {Pc : Array Value → State → Prop} {mc ms : Nat} {fr : Addr → Prop} {D : va_G} {A : Nat → Prop} {S S' : Type} {post : Int32 → S → Prop} {post' : Int32 → S' → Prop} {w1 : S → va_W} {w1' : S' → va_W}
    (h : Met l y ws rm Pc (va_Qi post (fun u t => bW D A (w1 u) t) A) mc ms fr) (hp : ∀ r u, post r u → ∃ u', post' r u' ∧ w1 u = w1' u') : Met l y ws rm Pc (va_Qi post' (fun u t => bW D A (w1' u) t) A) mc ms fr := by
  intro p e ha hc hk s m args below hf happ hP hK
  obtain ⟨n, o, h1, h2, h3, ⟨⟨r, u, g1, g2, g3⟩, g4⟩, h5⟩ := h p e ha hc hk s m args below hf happ hP hK
  obtain ⟨u', k1, k2⟩ := hp r u g2
  refine ⟨n, o, h1, h2, h3, ⟨⟨r, u', g1, k1, ?_⟩, g4⟩, h5⟩
  show bW D A (w1' u') _
  rw [← k2]
  exact g3
theorem metV {l : Launch} {y : MethodName} {ws : List Cond} {rm : Room} {Pc : Array Value → State → Prop} {mc ms : Nat} {fr : Addr → Prop} {D : va_G} {A : Nat → Prop} {S S' : Type} {post : S → Prop} {post' : S' → Prop} {w1 : S → va_W} {w1' : S' → va_W}
    (h : Met l y ws rm Pc (va_Qv post (fun u t => bW D A (w1 u) t) A) mc ms fr) (hp : ∀ u, post u → ∃ u', post' u' ∧ w1 u = w1' u') : Met l y ws rm Pc (va_Qv post' (fun u t => bW D A (w1' u) t) A) mc ms fr := by
  intro p e ha hc hk s m args below hf happ hP hK
  obtain ⟨n, o, h1, h2, h3, ⟨⟨u, g1, g2, g3⟩, g4⟩, h5⟩ := h p e ha hc hk s m args below hf happ hP hK
  obtain ⟨u', k1, k2⟩ := hp u g2
  refine ⟨n, o, h1, h2, h3, ⟨⟨u', g1, k1, ?_⟩, g4⟩, h5⟩
  show bW D A (w1' u') _
  rw [← k2]
  exact g3
