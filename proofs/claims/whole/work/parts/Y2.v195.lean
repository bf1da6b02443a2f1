/-! Calls that tell, and calls on the tape and the power. -/
theorem i32_nat {z : Int32} {a : Nat} (ha : a < 2 ^ 31) (h1 : ¬ z < 0) (h2 : ¬ nI a < z) : ∃ j, j ≤ a ∧ z = nI j := by
  have e0 : (0 : Int32).toInt = 0 := by decide
  have ea : (nI a).toInt = a := nI_toInt ha
  rw [Int32.lt_iff_toInt_lt] at h1 h2
  rw [e0] at h1
  rw [ea] at h2
  refine ⟨z.toInt.toNat, by omega, ?_⟩
  apply Int32.toInt_inj.mp
  rw [nI_toInt (by omega)]
  omega
theorem i32_lt {z : Int32} {a : Nat} (ha : a < 2 ^ 31) (h1 : ¬ z < 0) (h2 : ¬ nI a ≤ z) : ∃ j, j < a ∧ z = nI j := by
  have e0 : (0 : Int32).toInt = 0 := by decide
  have ea : (nI a).toInt = a := nI_toInt ha
  rw [Int32.lt_iff_toInt_lt] at h1
  rw [Int32.le_iff_toInt_le] at h2
  rw [e0] at h1
  rw [ea] at h2
  refine ⟨z.toInt.toNat, by omega, ?_⟩
  apply Int32.toInt_inj.mp
  rw [nI_toInt (by omega)]
  omega
theorem i32_01 {n : Int32} (h0 : ¬ n = 0) (h1 : ¬ n = 1) : n < 0 ∨ 1 < n := by
  by_cases h : n < 0
  · exact Or.inl h
  · refine Or.inr ?_
    rw [Int32.lt_iff_toInt_lt] at h ⊢
    have a0 : n.toInt ≠ (0 : Int32).toInt := fun z => h0 (Int32.toInt_inj.mp z)
    have a1 : n.toInt ≠ (1 : Int32).toInt := fun z => h1 (Int32.toInt_inj.mp z)
    have e0 : (0 : Int32).toInt = 0 := by decide
    have e1 : (1 : Int32).toInt = 1 := by decide
    omega
theorem k_n1 : ¬ nI 1 = 0 := by decide
theorem k_n2 : ¬ nI 2 = 0 := by decide
theorem k_n3 : ¬ nI 3 = 0 := by decide
theorem k_n4 : ¬ nI 4 = 0 := by decide
section CA
variable {p : Program} {e : Env} {s : State} {m : MethodId} {below : List Frame} {meth : Method} {c : Code} {b L : Nat} {xs : Nat → Int32} {D : va_G} {dA : Nat → ClassId} {e0 : Nat} {A : Nat → Prop} {h : Nat} {ad : Nat → Nat} {mm : Nat} {mad : Nat → Nat} {o : Nat} {n : Nat} {x : VS} {M : MS} {cs ss : Nat}
theorem lS_tr {l : Launch} (hC : lS p l s m meth c b L xs D dA e0 A) : l.stackTraces = false := hC.2.2.2.2.2.2.2.2.2.2.2.2.2.2.2.2
theorem call_1 (l : Launch) (hC : lS p l s m meth c b L xs D dA e0 A) (hL : L ≤ 3072) (hi : 6 * n + 6 ≤ L) (hR : Rl dA ad e0 n x M cs ss) (cont : ∀ x' M' cs' ss', Rl dA ad e0 (n + 1) x' M' cs' ss' → At9 p l e s m below meth c b D dA A h ad mm mad o 23 (6 * n + 6) x' M' cs' ss') : At9 p l e s m below meth c b D dA A h ad mm mad o (tg9 1) (6 * n) x M cs ss := by
  intro og H locs ls hP hD hS hl
  obtain ⟨rm1, rm2⟩ := rl_room (rl_skip hR (by omega))
  obtain ⟨-, -, -, -, -, -, -, -, -, -, -, ⟨⟨t1, t2, t3, t4⟩, ⟨t5, t6, t7⟩, t8⟩, -⟩ := id hR
  by_cases hv : xs (6 * n + 1) < 0 ∨ nI x.tapeLength < xs (6 * n + 1)
  · have hr2 := rl_up (cs' := cs + 1 + 0 + 0) (ss' := ss + 6 + 0 + 0) hR (by omega) 1 (by omega) (by omega)
    obtain ⟨rn1, rn2⟩ := rl_room hr2
    have W1 := fun sz => k8_end_1 l D dA sz h ad x (xs (6 * n + 1)) (fun u => u = x) _ _ _ _ (nf_x0 (fun sz => v_end_x l (lS_tr hC) D dA sz h ad x (xs (6 * n + 1)) hv) rfl (fun _ _ _ q => q))
    have M1 := fun sz => k_end_x l D dA sz mm mad M (xs (6 * n + 1)) (by rw [t2]; exact hv)
    exact l9_1_x l hC (k9 := 1) hi hL ⟨by omega, by omega, by omega, by omega⟩ ⟨by omega, by omega⟩ rfl k_n1 W1 M1 hP hD hS hl (fun u H1 locs1 ls1 hf hP hD hS hl => cont u _ _ _ (by rw [show u = x from hf]; exact hr2) og H1 locs1 ls1 hP hD hS hl)
  · obtain ⟨j, hj, ej⟩ := i32_nat (a := x.tapeLength) (by omega) (fun z => hv (Or.inl z)) (fun z => hv (Or.inr z))
    have hr2 := rl_end hR (by omega) hj
    have W1 := fun sz => k8_end l D dA sz h ad x (xs (6 * n + 1)) (fun u => u = VS.s_tapeLength x j) _ _ _ _ (nf_v (fun sz => v_end l D dA sz h ad x j hj (by omega)) (fun _ _ => rfl) (fun _ _ _ q => by rw [ej] at q; exact q))
    have M1 := nm_v (M1 := MS.s_length (MS.s_cod M 0) j) (Pc2 := fun sz => pC D dA [.ref mm, .int (xs (6 * n + 1))] (MW dA mm mad M) sz) (fun sz => k_end l D dA sz mm mad M j (by omega) (by omega)) (fun _ _ => rfl) (fun _ _ _ q => by rw [ej] at q; exact q)
    exact l9_1 l hC hi hL ⟨by omega, by omega, by omega, by omega⟩ ⟨by omega, by omega⟩ rfl W1 M1 hP hD hS hl (fun u H1 locs1 ls1 hf hP hD hS hl => cont u _ _ _ (by rw [show u = VS.s_tapeLength x j from hf]; exact hr2) og H1 locs1 ls1 hP hD hS hl)
end CA
