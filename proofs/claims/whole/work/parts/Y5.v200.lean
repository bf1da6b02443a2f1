/-! Bytes fed. -/
theorem fd_20 (a b c d e : Int32) (f : Nat → Int32) (n : Nat) : fdT a b c d e f n 20 = ptT e (ptT d (ptT c (ptT b (ptT a f n) (n + 1 + 1 + 1 + 1)) (n + 1 + 1 + 1 + 1 + 1 + 1 + 1 + 1)) (n + 1 + 1 + 1 + 1 + 1 + 1 + 1 + 1 + 1 + 1 + 1 + 1)) (n + 1 + 1 + 1 + 1 + 1 + 1 + 1 + 1 + 1 + 1 + 1 + 1 + 1 + 1 + 1 + 1) := rfl
theorem fdT_hi {a b c d e : Int32} {f : Nat → Int32} {n q : Nat} : ∀ k, n + k ≤ q → fdT a b c d e f n k q = f q
  | 0, _ => rfl
  | k + 1, h => by
    show va_up (fdT a b c d e f n k) (n + k) _ q = f q
    rw [va_up_ne _ _ (by omega)]
    exact fdT_hi k (by omega)
theorem fdT_b {a b c d e : Int32} {f : Nat → Int32} {n : Nat} (hf : byteF f) : ∀ k, byteF (fdT a b c d e f n k)
  | 0 => hf
  | k + 1 => fun q => by
    show (va_up (fdT a b c d e f n k) (n + k) (fdB a b c d e k) q).toInt8.toInt32 = va_up (fdT a b c d e f n k) (n + k) (fdB a b c d e k) q
    by_cases g : q = n + k
    · rw [g, va_up_self]
      unfold fdB
      rw [Int8.toInt8_toInt32]
    · rw [va_up_ne _ _ g]
      exact fdT_b hf k q
section FD
variable {x : VS} {m : MS} {dA : Nat → ClassId} {ad : Nat → Nat} {e0 n cs ss : Nat}
theorem tg_tape (h : ∀ i, x.tpN ≤ i → x.tape i = 0) (ta : Nat) : (x.tgF ta).tape = x.tape := by
  unfold VS.tgF
  split
  · rfl
  · show va_cpy x.tape (fun _ => 0) 0 0 (min x.tpN (2 * x.tpN)) = x.tape
    funext k
    unfold va_cpy
    by_cases c : k < x.tpN
    · rw [if_pos (by omega), Nat.sub_zero, Nat.zero_add]
    · rw [if_neg (by omega), h k (by omega)]
theorem fdF_e (h : ∀ i, x.tpN ≤ i → x.tape i = 0) (ta : Nat) (a1 a2 a3 a4 a5 : Int32) : ∃ tq, x.fdF ta a1 a2 a3 a4 a5 = VS.s_tapeLength (VS.s_tape (VS.s_tpN (VS.s_tpA x tq) x.tcap) (fdT a1 a2 a3 a4 a5 x.tape x.tapeLength 20)) (x.tapeLength + 20) := by
  have et := tg_tape h ta
  rw [fd_20, ← et]
  by_cases c : x.tapeLength + 20 ≤ x.tpN
  · refine ⟨x.tpA, ?_⟩
    have e1 : x.tgF ta = x := if_pos c
    have e2 : x.tcap = x.tpN := if_pos c
    unfold VS.fdF
    rw [e1, e2]
    rfl
  · refine ⟨ta, ?_⟩
    have e1 : x.tgF ta = x.tgS ta := if_neg c
    have e2 : x.tcap = 2 * x.tpN := if_neg c
    unfold VS.fdF
    rw [e1, e2]
    rfl
set_option maxRecDepth 100000 in
theorem rl_feed (h : Rl dA ad e0 n x m cs ss) (hn : n + 1 ≤ 512) (ta : Nat) (a1 a2 a3 a4 a5 : Int32) : Rl dA ad e0 (n + 1) (x.fdF ta a1 a2 a3 a4 a5) (MS.s_length (MS.s_tape (MS.s_cod m 0) (fdT a1 a2 a3 a4 a5 m.tape m.length 20)) (m.length + 20)) (cs + (x.tcap - x.tpN) + 0 + 0) (ss + 2 * (x.tcap - x.tpN) + 0 + 0) := by
  obtain ⟨PS, SS, dn, bn, gq, rq, la, gk, AT, T, a1', ⟨⟨t1, t2, t3, t4⟩, ⟨t5, t6, t7⟩, t8⟩, a3', a4', a5', a6, a7, a8⟩ := h
  obtain ⟨n1, n2, n3, ⟨n4, n5, n6, n7⟩, ⟨n8, n9, n10, n11⟩, n12⟩ := a4'
  obtain ⟨tq, e⟩ := fdF_e t3 ta a1 a2 a3 a4 a5
  rw [e]
  have hc : x.tpN ≤ x.tcap ∧ x.tapeLength + 20 ≤ x.tcap ∧ x.tcap ≤ 65536 := by
    unfold VS.tcap
    split <;> omega
  refine ⟨PS, SS, dn, bn, gq, rq, la, gk, AT, T, a1', ⟨⟨by rw [t1, t2], by rw [t2], fun i hi => ?_, fdT_b t4 20⟩, ⟨hc.2.1, by show 256 ≤ x.tcap; omega, hc.2.2⟩, t8⟩, a3', ⟨n1, n2, n3, ⟨?_, ?_, ?_, n7⟩, ⟨by show x.writes ≤ 300 * (n + 1); omega, by show m.deletes ≤ 1300 * (n + 1); omega, by show m.parcelNumber ≤ n + 1; omega, n11⟩, n12⟩, a5', hn, ?_, ?_⟩
  · have hi : x.tcap ≤ i := hi
    show fdT a1 a2 a3 a4 a5 x.tape x.tapeLength 20 i = 0
    rw [fdT_hi 20 (by omega)]
    exact t3 i (by omega)
  · show 16 * x.jsize + (x.tapeLength + 20) ≤ _
    omega
  · show 16 * x.hsize + (x.tapeLength + 20) ≤ _
    omega
  · show 16 * (cnt m.points m.pkd + cnt x.jsize (fun r => decide (x.jK r = 1))) + (x.tapeLength + 20) ≤ _
    omega
  · show cs + (x.tcap - x.tpN) + 0 + 0 + 17 * (x.tapeLength + 20) ≤ 2000 + 400 * (n + 1) + 6 * x.jN + 3 * x.hN + 3 * x.gN + x.tcap
    omega
  · show ss + 2 * (x.tcap - x.tpN) + 0 + 0 + 70 * (x.tapeLength + 20) ≤ 1177800 + 6000 * (n + 1) + 12 * x.jN + 6 * x.hN + 6 * x.gN + 2 * x.tcap + (700 * gk.sz + 2 * sumN gk.sz (fun tb => (T tb).cN) + 4 * x.bN)
    omega
end FD
section CC
variable {p : Program} {e : Env} {s : State} {m : MethodId} {below : List Frame} {meth : Method} {c : Code} {b L : Nat} {xs : Nat → Int32} {D : va_G} {dA : Nat → ClassId} {e0 : Nat} {A : Nat → Prop} {h : Nat} {ad : Nat → Nat} {mm : Nat} {mad : Nat → Nat} {o : Nat} {n : Nat} {x : VS} {M : MS} {cs ss : Nat}
theorem call_0 (l : Launch) (hC : lS p l s m meth c b L xs D dA e0 A) (hL : L ≤ 3072) (hi : 6 * n + 6 ≤ L) (hR : Rl dA ad e0 n x M cs ss) (cont : ∀ x' M' cs' ss', Rl dA ad e0 (n + 1) x' M' cs' ss' → At9 p l e s m below meth c b D dA A h ad mm mad o 23 (6 * n + 6) x' M' cs' ss') : At9 p l e s m below meth c b D dA A h ad mm mad o (tg9 0) (6 * n) x M cs ss := by
  intro og H locs ls hP hD hS hl
  obtain ⟨PS, SS, dn, bn, gq, rq, la, gk, AT, T, co, ⟨⟨t1, t2, t3, t4⟩, ⟨t5, t6, t7⟩, ⟨t8, t9⟩, t10, t11, t12⟩, sr, ⟨k1, k2, k3, ⟨k4, k5, k6, k7⟩, k8⟩, ar, rr⟩ := id hR
  have hr2 := rl_feed hR (by omega) 0 (xs (6 * n + 1)) (xs (6 * n + 2)) (xs (6 * n + 3)) (xs (6 * n + 4)) (xs (6 * n + 5))
  obtain ⟨rn1, rn2⟩ := rl_room hr2
  have W1 := fun sz => k8_feed l D dA sz h ad o og x (xs (6 * n + 1)) (xs (6 * n + 2)) (xs (6 * n + 3)) (xs (6 * n + 4)) (xs (6 * n + 5)) (nI (x.tapeLength + 20)) (fun u => ∃ ta, u = x.fdF ta (xs (6 * n + 1)) (xs (6 * n + 2)) (xs (6 * n + 3)) (xs (6 * n + 4)) (xs (6 * n + 5))) _ _ _ _ (nf_i (fun sz => v_feed l D dA sz h ad x (xs (6 * n + 1)) (xs (6 * n + 2)) (xs (6 * n + 3)) (xs (6 * n + 4)) (xs (6 * n + 5)) (by omega) t5 t6 t7 t4) (fun r u q => q) (fun _ _ _ q => q))
  have M1 := fun sz => k_feed l D dA sz mm mad M (xs (6 * n + 1)) (xs (6 * n + 2)) (xs (6 * n + 3)) (xs (6 * n + 4)) (xs (6 * n + 5)) (by omega)
  exact l9_0 l hC hi hL ⟨by omega, by omega, by omega, by omega⟩ ⟨by omega, by omega⟩ rfl (by rw [t2]) W1 M1 hP hD hS hl (fun u H1 locs1 ls1 hf hP hD hS hl => by
    obtain ⟨ta, eu⟩ := hf
    refine cont u _ _ _ ?_ _ H1 locs1 ls1 hP hD hS hl
    rw [eu]
    exact rl_feed hR (by omega) ta (xs (6 * n + 1)) (xs (6 * n + 2)) (xs (6 * n + 3)) (xs (6 * n + 4)) (xs (6 * n + 5)))
end CC
