/-! The law's loop. -/
theorem tg9_d {k : Nat} (h1 : 25 ≤ k) (h2 : k < 32) : tg9 k = 1770 := by
  have h4 : k = 25 ∨ k = 26 ∨ k = 27 ∨ k = 28 ∨ k = 29 ∨ k = 30 ∨ k = 31 := by omega
  rcases h4 with rfl | rfl | rfl | rfl | rfl | rfl | rfl <;> rfl
section LP
variable (p : Program) (l : Launch) (e : Env) (s : State) (m : MethodId) (below : List Frame) (meth : Method) (c : Code) (b : Nat) (D : va_G) (dA : Nat → ClassId) (A : Nat → Prop) (h : Nat) (ad : Nat → Nat) (mm : Nat) (mad : Nat → Nat) (o : Nat)
/-- from here on the law comes to its end -/
def At9 (pc i : Nat) (x : VS) (M : MS) (cells slots : Nat) : Prop := ∀ (og : Nat → Int64) (H : Heap) (locs : List Loc) (ls : Array Slot), va_P D vwCl (MW dA mm mad M ++ ([(o, .inl (dA 2, 1, .inr (.inl og)))] ++ (VW dA h ad x))) H → va_D A (MW dA mm mad M ++ ([(o, .inl (dA 2, 1, .inr (.inl og)))] ++ (VW dA h ad x))) → va_S A s.heap H locs → lv_has ls 8 [(4, .int (nI i)), (3, .ref o), (2, .ref mm), (1, .ref h), (0, .ref b)] → W p l e room_1 s m #[Value.ref b] below meth c H locs cells slots (lw_Z below #[Value.ref b] s) (F0 m pc ls [])
end LP
section LQ
variable {p : Program} {e : Env} {s : State} {m : MethodId} {below : List Frame} {meth : Method} {c : Code} {b L : Nat} {xs : Nat → Int32} {D : va_G} {dA : Nat → ClassId} {e0 : Nat} {A : Nat → Prop} {h : Nat} {ad : Nat → Nat} {mm : Nat} {mad : Nat → Nat} {o : Nat}
theorem loop9 (l : Launch) (hC : lS p l s m meth c b L xs D dA e0 A) (hL : L ≤ 3072) {Rel : Nat → VS → MS → Nat → Nat → Prop} (hrm : ∀ i x M cs ss, Rel i x M cs ss → cs ≤ 601024 ∧ ss ≤ 7293034) (hskip : ∀ i x M cs ss, i + 6 ≤ L → Rel i x M cs ss → Rel (i + 6) x M cs ss) (hcall : ∀ k, k < 25 → ∀ i x M cs ss, i + 6 ≤ L → Rel i x M cs ss → (∀ x' M' cs' ss', Rel (i + 6) x' M' cs' ss' → At9 p l e s m below meth c b D dA A h ad mm mad o 23 (i + 6) x' M' cs' ss') → At9 p l e s m below meth c b D dA A h ad mm mad o (tg9 k) i x M cs ss) : ∀ n i x M cs ss, L - i ≤ n → i ≤ L → Rel i x M cs ss → At9 p l e s m below meth c b D dA A h ad mm mad o 23 i x M cs ss := by
  intro n
  induction n with
  | zero =>
    intro i x M cs ss hn hi hR og H locs ls hP hD hS hl
    obtain ⟨r1, r2⟩ := hrm i x M cs ss hR
    exact l9_end l hC (by omega) (by omega) hL r1 r2 hS hl
  | succ n ih =>
    intro i x M cs ss hn hi hR og H locs ls hP hD hS hl
    by_cases c6 : i + 6 ≤ L
    · refine l9_head l hC c6 hL hS hl ?_
      refine l9_sw l hC (fun k hk hv => ?_)
      by_cases k5 : k < 25
      · exact hcall k k5 i x M cs ss c6 hR (fun x' M' cs' ss' hR' => ih (i + 6) x' M' cs' ss' (by omega) (by omega) hR') og H locs ls hP hD hS hl
      · rw [tg9_d (by omega) hk]
        exact l9_d l hC c6 hL hS hl (fun ls1 hl1 => ih (i + 6) x M cs ss (by omega) (by omega) (hskip i x M cs ss c6 hR) og H locs ls1 hP hD hS hl1)
    · obtain ⟨r1, r2⟩ := hrm i x M cs ss hR
      exact l9_end l hC (by omega) (by omega) hL r1 r2 hS hl
end LQ
