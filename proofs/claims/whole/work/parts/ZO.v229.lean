theorem ask_room {dA : Nat → ClassId} {n : Nat} {x : VS} {M : MS} {cs ss mc ms cS : Nat} {PS : Nat → PT} {gk : LI} {AT : Nat → Nat → Nat} {T : Nat → TB} {σ : SHT} (nr : rlN dA PS M x n) (a2 : rlT M x) (ar : rlR x gk T n cs ss) (h0 : shOk (shp (VS.s_adep x 0, gk, AT, T))) (h1 : shOk σ) (hc : mc ≤ 17 * x.tapeLength) (hs : ms + cS + shQ (shp (VS.s_adep x 0, gk, AT, T)) ≤ 70 * x.tapeLength + 40 + shQ σ) : cs + mc + 0 + 0 ≤ 601024 ∧ ss + (ms + cS) + 0 + 0 ≤ 7293034 := by
  obtain ⟨a6, a7, a8⟩ := ar
  obtain ⟨-, -, ⟨n1, n2, n3, n4, n5, n6, n7, n8⟩, -⟩ := nr
  have t3 := a2.2.1.2.2
  have q1 := shQ_e (VS.s_adep x 0, gk, AT, T)
  have q1 : shQ (shp (VS.s_adep x 0, gk, AT, T)) = 700 * gk.sz + 2 * sumN gk.sz (fun tb => (T tb).cN) + 4 * x.bN := q1
  obtain ⟨s1, s2, s3, s4, s5⟩ := h1
  have hsu : sumN σ.2.1 σ.2.2.2.1 ≤ 32768 * σ.2.1 := sum_le (fun k hk => (s4 k hk).2)
  have q2 : shQ σ = 700 * σ.2.1 + 2 * sumN σ.2.1 σ.2.2.2.1 + 4 * σ.2.2.2.2 := rfl
  omega
/-! A question asked: the call. -/
theorem pt_wo {m : MS} {x : VS} {PS : Nat → PT} {dn : Nat → Nat} (h : ptR m x PS dn) (hn : m.seriesCount = x.nser) (hho : ∀ i : Nat, i < x.hsize → x.hO i < x.nser) {fr wd : Int64} {nw : Nat} (h1 : nw ≤ 64) (h2 : 0 ≤ fr) : (∀ k : Nat, k < x.npc → ∀ i : Nat, i < (PS k).n → (PS k).o i < x.nser ∧ wOk fr wd nw ((PS k).t i)) ∧ ∀ i : Nat, i < x.hsize → x.hO i < x.nser ∧ wOk fr wd nw (x.hT i) := by
  refine ⟨fun k hk i hi => ⟨po_lt h hn k hk i hi, ?_⟩, fun i hi => ⟨hho i hi, ?_⟩⟩
  · obtain ⟨q, q1, q2, q3, q4⟩ := arr_ix (h.1.2.2.2 k hk).1 (W := m.seriesCount) (fun q hq hc => in_se h hk hq hc) hi
    rw [q4]
    exact wOk_of h1 h2 (Int64.not_lt.mp (h.2.2.2.2.2 q q1).2)
  · have hi' : i < cnt m.points m.hdd := by
      rw [← h.1.1.1]
      exact hi
    obtain ⟨j, hj, c, ej⟩ := cnt_at hi'
    obtain ⟨-, e2, -⟩ := h.1.1.2 j hj c
    rw [← ej, e2]
    exact wOk_of h1 h2 (Int64.not_lt.mp (h.2.2.2.2.2 j hj).2)
section CK13
variable {p : Program} {e : Env} {s : State} {m : MethodId} {below : List Frame} {meth : Method} {c : Code} {b L : Nat} {xs : Nat → Int32} {D : va_G} {dA : Nat → ClassId} {e0 : Nat} {A : Nat → Prop} {h : Nat} {ad : Nat → Nat} {mm : Nat} {mad : Nat → Nat} {o : Nat} {n : Nat} {x : VS} {M : MS} {cs ss : Nat}
set_option maxHeartbeats 4000000 in
theorem call_13 (l : Launch) {mi : Nat} {kA vA : Nat → Nat} {fm : Nat} (hMi : va_Mi "[Ljava/lang/Object;" mi s) (hQ : qS kA vA fm A s s.heap) (hC : lS p l s m meth c b L xs D dA e0 A) (hL : L ≤ 3072) (hi : 6 * n + 6 ≤ L) (hR : Rl dA ad e0 n x M cs ss) (cont : ∀ x' M' cs' ss', Rl dA ad e0 (n + 1) x' M' cs' ss' → At9 p l e s m below meth c b D dA A h ad mm mad o 23 (6 * n + 6) x' M' cs' ss') : At9 p l e s m below meth c b D dA A h ad mm mad o (tg9 13) (6 * n) x M cs ss := by
  intro og H locs ls hP hD hS hl
  obtain ⟨rm1, rm2⟩ := rl_room (rl_skip hR (by omega))
  obtain ⟨PS, SS, dn, bn, gq, rq, la, gk, AT, T, co, ⟨⟨t1, t2, t3, t4⟩, ⟨t5, t6, t7⟩, ⟨t8, t9⟩, t10, t11, t12⟩, ⟨sr1, sr2, sr3, sr4, sr5⟩, nr, ⟨⟨r1, r2, r3, r4⟩, r5, ⟨r6, r7⟩, ⟨r8, r9⟩, r10⟩, rr⟩ := id hR
  obtain ⟨cp, cb, ⟨se1, se2⟩, ⟨g1, g2, g3, g4, g5, g6, g7, g8, g9, g10, g11⟩, cj, ck, cc⟩ := id co
  obtain ⟨⟨n1, n2, n3, n4⟩, ⟨n5, n6, n7⟩, ⟨n8, n9, n10, n11, n12, n13, n14, n15⟩, ⟨n16, n17, n18, n19⟩, ⟨n20, n21, n22, n23⟩, n24⟩ := id nr
  obtain ⟨fr, efr⟩ : ∃ fr, fr = ((((xs (6 * n + 1)).toInt64) <<< ((32 : Int32).toInt64 &&& 63)) ||| (((xs (6 * n + 2)).toInt64) &&& 4294967295)) := ⟨_, rfl⟩
  obtain ⟨wd, ewd⟩ : ∃ wd, wd = ((((xs (6 * n + 3)).toInt64) <<< ((32 : Int32).toInt64 &&& 63)) ||| (((xs (6 * n + 4)).toInt64) &&& 4294967295)) := ⟨_, rfl⟩
  cases hp : x.powered with
  | false =>
    have hr2 := rl_up (cs' := cs + 1 + 0 + 0) (ss' := ss + 6 + 0 + 0) hR (by omega) 1 (by omega) (by omega)
    obtain ⟨rn1, rn2⟩ := rl_room hr2
    have W1 := fun sz => k8_ask_1 l D dA sz h ad o og x ((((xs (6 * n + 1)).toInt64) <<< ((32 : Int32).toInt64 &&& 63)) ||| (((xs (6 * n + 2)).toInt64) &&& 4294967295)) ((((xs (6 * n + 3)).toInt64) <<< ((32 : Int32).toInt64 &&& 63)) ||| (((xs (6 * n + 4)).toInt64) &&& 4294967295)) (xs (6 * n + 5)) (fun u => u = x) _ _ _ _ (nf_x0 (fun sz => v_ask_1 l (lS_tr hC) D dA sz h ad x ((((xs (6 * n + 1)).toInt64) <<< ((32 : Int32).toInt64 &&& 63)) ||| (((xs (6 * n + 2)).toInt64) &&& 4294967295)) ((((xs (6 * n + 3)).toInt64) <<< ((32 : Int32).toInt64 &&& 63)) ||| (((xs (6 * n + 4)).toInt64) &&& 4294967295)) (xs (6 * n + 5)) hp) rfl (fun _ _ _ q => q))
    have M1 := fun sz => k_ask_1 l D dA sz mm mad M ((((xs (6 * n + 1)).toInt64) <<< ((32 : Int32).toInt64 &&& 63)) ||| (((xs (6 * n + 2)).toInt64) &&& 4294967295)) ((((xs (6 * n + 3)).toInt64) <<< ((32 : Int32).toInt64 &&& 63)) ||| (((xs (6 * n + 4)).toInt64) &&& 4294967295)) (xs (6 * n + 5)) (t12.trans hp)
    exact l9_13_x l hC (k9 := 1) hi hL ⟨by omega, by omega, by omega, by omega⟩ ⟨by omega, by omega⟩ rfl k_n1 W1 M1 hP hD hS hl (fun u H1 locs1 ls1 hf hP hD hS hl => cont u _ _ _ (by rw [show u = x from hf]; exact hr2) og H1 locs1 ls1 hP hD hS hl)
  | true =>
    have on : M.on = true := t12.trans hp
    by_cases g0 : isTm fr = false
    · have hm0 : ((((xs (6 * n + 1)).toInt64) <<< ((32 : Int32).toInt64 &&& 63)) ||| (((xs (6 * n + 2)).toInt64) &&& 4294967295)) < 0 ∨ 1099511627775 < ((((xs (6 * n + 1)).toInt64) <<< ((32 : Int32).toInt64 &&& 63)) ||| (((xs (6 * n + 2)).toInt64) &&& 4294967295)) ∨ ((((xs (6 * n + 3)).toInt64) <<< ((32 : Int32).toInt64 &&& 63)) ||| (((xs (6 * n + 4)).toInt64) &&& 4294967295)) < 1 ∨ 1099511627775 < ((((xs (6 * n + 3)).toInt64) <<< ((32 : Int32).toInt64 &&& 63)) ||| (((xs (6 * n + 4)).toInt64) &&& 4294967295)) ∨ (xs (6 * n + 5)) < 1 ∨ 64 < (xs (6 * n + 5)) := by
        rw [← efr]
        by_cases c1 : fr < 0
        · exact Or.inl c1
        · by_cases c2 : 1099511627775 < fr
          · exact Or.inr (Or.inl c2)
          · refine absurd g0 ?_
            unfold isTm
            rw [decide_eq_false c1, decide_eq_false c2]
            decide
      have hr2 := rl_up (cs' := cs + 1 + 0 + 0) (ss' := ss + 6 + 0 + 0) hR (by omega) 2 (by omega) (by omega)
      obtain ⟨rn1, rn2⟩ := rl_room hr2
      have W1 := fun sz => k8_ask_2 l D dA sz h ad o og x ((((xs (6 * n + 1)).toInt64) <<< ((32 : Int32).toInt64 &&& 63)) ||| (((xs (6 * n + 2)).toInt64) &&& 4294967295)) ((((xs (6 * n + 3)).toInt64) <<< ((32 : Int32).toInt64 &&& 63)) ||| (((xs (6 * n + 4)).toInt64) &&& 4294967295)) (xs (6 * n + 5)) (fun u => u = x) _ _ _ _ (nf_x0 (fun sz => v_ask_2a l (lS_tr hC) D dA sz h ad x ((((xs (6 * n + 1)).toInt64) <<< ((32 : Int32).toInt64 &&& 63)) ||| (((xs (6 * n + 2)).toInt64) &&& 4294967295)) ((((xs (6 * n + 3)).toInt64) <<< ((32 : Int32).toInt64 &&& 63)) ||| (((xs (6 * n + 4)).toInt64) &&& 4294967295)) (xs (6 * n + 5)) hp (by rw [← efr]; exact g0)) rfl (fun _ _ _ q => q))
      have M1 := fun sz => k_ask_2 l D dA sz mm mad M ((((xs (6 * n + 1)).toInt64) <<< ((32 : Int32).toInt64 &&& 63)) ||| (((xs (6 * n + 2)).toInt64) &&& 4294967295)) ((((xs (6 * n + 3)).toInt64) <<< ((32 : Int32).toInt64 &&& 63)) ||| (((xs (6 * n + 4)).toInt64) &&& 4294967295)) (xs (6 * n + 5)) on hm0
      exact l9_13_x l hC (k9 := 2) hi hL ⟨by omega, by omega, by omega, by omega⟩ ⟨by omega, by omega⟩ rfl k_n2 W1 M1 hP hD hS hl (fun u H1 locs1 ls1 hf hP hD hS hl => cont u _ _ _ (by rw [show u = x from hf]; exact hr2) og H1 locs1 ls1 hP hD hS hl)
    · have tm : isTm fr = true := by
        cases e : isTm fr with
        | true => rfl
        | false => exact absurd e g0
      obtain ⟨i1, i2⟩ := isTm_i tm
      have tmF : isTm ((((xs (6 * n + 1)).toInt64) <<< ((32 : Int32).toInt64 &&& 63)) ||| (((xs (6 * n + 2)).toInt64) &&& 4294967295)) = true := by rw [← efr]; exact tm
      by_cases g1 : wd < 1
      · have hr2 := rl_up (cs' := cs + 1 + 0 + 0) (ss' := ss + 6 + 0 + 0) hR (by omega) 2 (by omega) (by omega)
        obtain ⟨rn1, rn2⟩ := rl_room hr2
        have W1 := fun sz => k8_ask_2 l D dA sz h ad o og x ((((xs (6 * n + 1)).toInt64) <<< ((32 : Int32).toInt64 &&& 63)) ||| (((xs (6 * n + 2)).toInt64) &&& 4294967295)) ((((xs (6 * n + 3)).toInt64) <<< ((32 : Int32).toInt64 &&& 63)) ||| (((xs (6 * n + 4)).toInt64) &&& 4294967295)) (xs (6 * n + 5)) (fun u => u = x) _ _ _ _ (nf_x0 (fun sz => v_ask_2b l (lS_tr hC) D dA sz h ad x ((((xs (6 * n + 1)).toInt64) <<< ((32 : Int32).toInt64 &&& 63)) ||| (((xs (6 * n + 2)).toInt64) &&& 4294967295)) ((((xs (6 * n + 3)).toInt64) <<< ((32 : Int32).toInt64 &&& 63)) ||| (((xs (6 * n + 4)).toInt64) &&& 4294967295)) (xs (6 * n + 5)) hp tmF (by rw [← ewd]; exact g1)) rfl (fun _ _ _ q => q))
        have M1 := fun sz => k_ask_2 l D dA sz mm mad M ((((xs (6 * n + 1)).toInt64) <<< ((32 : Int32).toInt64 &&& 63)) ||| (((xs (6 * n + 2)).toInt64) &&& 4294967295)) ((((xs (6 * n + 3)).toInt64) <<< ((32 : Int32).toInt64 &&& 63)) ||| (((xs (6 * n + 4)).toInt64) &&& 4294967295)) (xs (6 * n + 5)) on (Or.inr (Or.inr (Or.inl (by rw [← ewd]; exact g1))))
        exact l9_13_x l hC (k9 := 2) hi hL ⟨by omega, by omega, by omega, by omega⟩ ⟨by omega, by omega⟩ rfl k_n2 W1 M1 hP hD hS hl (fun u H1 locs1 ls1 hf hP hD hS hl => cont u _ _ _ (by rw [show u = x from hf]; exact hr2) og H1 locs1 ls1 hP hD hS hl)
      · have w1 : 1 ≤ wd := Int64.not_lt.mp g1
        by_cases g2 : 1099511627775 < wd
        · have hr2 := rl_up (cs' := cs + 1 + 0 + 0) (ss' := ss + 6 + 0 + 0) hR (by omega) 2 (by omega) (by omega)
          obtain ⟨rn1, rn2⟩ := rl_room hr2
          have W1 := fun sz => k8_ask_2 l D dA sz h ad o og x ((((xs (6 * n + 1)).toInt64) <<< ((32 : Int32).toInt64 &&& 63)) ||| (((xs (6 * n + 2)).toInt64) &&& 4294967295)) ((((xs (6 * n + 3)).toInt64) <<< ((32 : Int32).toInt64 &&& 63)) ||| (((xs (6 * n + 4)).toInt64) &&& 4294967295)) (xs (6 * n + 5)) (fun u => u = x) _ _ _ _ (nf_x0 (fun sz => v_ask_2c l (lS_tr hC) D dA sz h ad x ((((xs (6 * n + 1)).toInt64) <<< ((32 : Int32).toInt64 &&& 63)) ||| (((xs (6 * n + 2)).toInt64) &&& 4294967295)) ((((xs (6 * n + 3)).toInt64) <<< ((32 : Int32).toInt64 &&& 63)) ||| (((xs (6 * n + 4)).toInt64) &&& 4294967295)) (xs (6 * n + 5)) hp tmF (by rw [← ewd]; exact w1) (by rw [← ewd]; exact g2)) rfl (fun _ _ _ q => q))
          have M1 := fun sz => k_ask_2 l D dA sz mm mad M ((((xs (6 * n + 1)).toInt64) <<< ((32 : Int32).toInt64 &&& 63)) ||| (((xs (6 * n + 2)).toInt64) &&& 4294967295)) ((((xs (6 * n + 3)).toInt64) <<< ((32 : Int32).toInt64 &&& 63)) ||| (((xs (6 * n + 4)).toInt64) &&& 4294967295)) (xs (6 * n + 5)) on (Or.inr (Or.inr (Or.inr (Or.inl (by rw [← ewd]; exact g2)))))
          exact l9_13_x l hC (k9 := 2) hi hL ⟨by omega, by omega, by omega, by omega⟩ ⟨by omega, by omega⟩ rfl k_n2 W1 M1 hP hD hS hl (fun u H1 locs1 ls1 hf hP hD hS hl => cont u _ _ _ (by rw [show u = x from hf]; exact hr2) og H1 locs1 ls1 hP hD hS hl)
        · have w2 : wd ≤ 1099511627775 := Int64.not_lt.mp g2
          by_cases g3 : (xs (6 * n + 5)) < 1
          · have hr2 := rl_up (cs' := cs + 1 + 0 + 0) (ss' := ss + 6 + 0 + 0) hR (by omega) 2 (by omega) (by omega)
            obtain ⟨rn1, rn2⟩ := rl_room hr2
            have W1 := fun sz => k8_ask_2 l D dA sz h ad o og x ((((xs (6 * n + 1)).toInt64) <<< ((32 : Int32).toInt64 &&& 63)) ||| (((xs (6 * n + 2)).toInt64) &&& 4294967295)) ((((xs (6 * n + 3)).toInt64) <<< ((32 : Int32).toInt64 &&& 63)) ||| (((xs (6 * n + 4)).toInt64) &&& 4294967295)) (xs (6 * n + 5)) (fun u => u = x) _ _ _ _ (nf_x0 (fun sz => v_ask_2d l (lS_tr hC) D dA sz h ad x ((((xs (6 * n + 1)).toInt64) <<< ((32 : Int32).toInt64 &&& 63)) ||| (((xs (6 * n + 2)).toInt64) &&& 4294967295)) ((((xs (6 * n + 3)).toInt64) <<< ((32 : Int32).toInt64 &&& 63)) ||| (((xs (6 * n + 4)).toInt64) &&& 4294967295)) (xs (6 * n + 5)) hp tmF (by rw [← ewd]; exact w1) (by rw [← ewd]; exact w2) g3) rfl (fun _ _ _ q => q))
            have M1 := fun sz => k_ask_2 l D dA sz mm mad M ((((xs (6 * n + 1)).toInt64) <<< ((32 : Int32).toInt64 &&& 63)) ||| (((xs (6 * n + 2)).toInt64) &&& 4294967295)) ((((xs (6 * n + 3)).toInt64) <<< ((32 : Int32).toInt64 &&& 63)) ||| (((xs (6 * n + 4)).toInt64) &&& 4294967295)) (xs (6 * n + 5)) on (Or.inr (Or.inr (Or.inr (Or.inr (Or.inl g3)))))
            exact l9_13_x l hC (k9 := 2) hi hL ⟨by omega, by omega, by omega, by omega⟩ ⟨by omega, by omega⟩ rfl k_n2 W1 M1 hP hD hS hl (fun u H1 locs1 ls1 hf hP hD hS hl => cont u _ _ _ (by rw [show u = x from hf]; exact hr2) og H1 locs1 ls1 hP hD hS hl)
          · by_cases g4 : 64 < (xs (6 * n + 5))
            · have hr2 := rl_up (cs' := cs + 1 + 0 + 0) (ss' := ss + 6 + 0 + 0) hR (by omega) 2 (by omega) (by omega)
              obtain ⟨rn1, rn2⟩ := rl_room hr2
              have W1 := fun sz => k8_ask_2 l D dA sz h ad o og x ((((xs (6 * n + 1)).toInt64) <<< ((32 : Int32).toInt64 &&& 63)) ||| (((xs (6 * n + 2)).toInt64) &&& 4294967295)) ((((xs (6 * n + 3)).toInt64) <<< ((32 : Int32).toInt64 &&& 63)) ||| (((xs (6 * n + 4)).toInt64) &&& 4294967295)) (xs (6 * n + 5)) (fun u => u = x) _ _ _ _ (nf_x0 (fun sz => v_ask_2e l (lS_tr hC) D dA sz h ad x ((((xs (6 * n + 1)).toInt64) <<< ((32 : Int32).toInt64 &&& 63)) ||| (((xs (6 * n + 2)).toInt64) &&& 4294967295)) ((((xs (6 * n + 3)).toInt64) <<< ((32 : Int32).toInt64 &&& 63)) ||| (((xs (6 * n + 4)).toInt64) &&& 4294967295)) (xs (6 * n + 5)) hp tmF (by rw [← ewd]; exact w1) (by rw [← ewd]; exact w2) (Int32.not_lt.mp g3) g4) rfl (fun _ _ _ q => q))
              have M1 := fun sz => k_ask_2 l D dA sz mm mad M ((((xs (6 * n + 1)).toInt64) <<< ((32 : Int32).toInt64 &&& 63)) ||| (((xs (6 * n + 2)).toInt64) &&& 4294967295)) ((((xs (6 * n + 3)).toInt64) <<< ((32 : Int32).toInt64 &&& 63)) ||| (((xs (6 * n + 4)).toInt64) &&& 4294967295)) (xs (6 * n + 5)) on (Or.inr (Or.inr (Or.inr (Or.inr (Or.inr g4)))))
              exact l9_13_x l hC (k9 := 2) hi hL ⟨by omega, by omega, by omega, by omega⟩ ⟨by omega, by omega⟩ rfl k_n2 W1 M1 hP hD hS hl (fun u H1 locs1 ls1 hf hP hD hS hl => cont u _ _ _ (by rw [show u = x from hf]; exact hr2) og H1 locs1 ls1 hP hD hS hl)
            · have z1 : (1 : Int32).toInt = 1 := by decide
              have z64 : (64 : Int32).toInt = 64 := by decide
              have z0 : (0 : Int32).toInt = 0 := by decide
              obtain ⟨nw, hnw, enw⟩ := i32_nat (z := (xs (6 * n + 5))) (a := 64) (by decide) (fun z => g3 (by rw [Int32.lt_iff_toInt_lt] at z ⊢; omega)) g4
              have hn1 : 1 ≤ nw := by
                rw [enw, Int32.lt_iff_toInt_lt, nI_toInt (by omega), z1] at g3
                omega
              have rlt : rlT M x := ⟨⟨t1, t2, t3, t4⟩, ⟨t5, t6, t7⟩, ⟨t8, t9⟩, t10, t11, t12⟩
              have rls : rlS dA SS M x := ⟨sr1, sr2, sr3, sr4, sr5⟩
              have rla : rlA dA ad e0 M x gq rq la gk AT T := ⟨⟨r1, r2, r3, r4⟩, r5, ⟨r6, r7⟩, ⟨r8, r9⟩, r10⟩
              have hsc : M.seriesCount ≤ 256 := by omega
              have fr0 : 0 ≤ fr := Int64.not_lt.mp i1
              have fr1 : fr ≤ 1099511627775 := Int64.not_lt.mp i2
              have haw : M.aW := ⟨by omega, by rw [t1]; exact t4, r10.1, hsc, fun q hq => (sr5 q hq).1, by omega, n23, r10.1.2, sr4⟩
              have hL16 : x.tapeLength ≤ 16384 := by omega
              obtain ⟨hpo, hho⟩ := pt_wo (wd := wd) cp se1 (fun i hi => hO_lt cj ck hi) hnw fr0
              have hs7 : ∀ q : Nat, q < x.nsc → x.nsO q < 2 ^ 31 := fun q hq => by
                have := nsO_lt cj ck hq
                omega
              have plx : plF x.pl := by
                refine plF_s (fun c hc => ?_) (plF_of hD)
                exact List.mem_append_right _ (List.mem_append_right _ (plm hc))
              obtain ⟨ts, ets⟩ : ∃ ts : TKQ, ts = (x.qk, x.qst, 0, x.qnum, 0, 0) := ⟨_, rfl⟩
              have e1 : ts.2.2.1 = 0 := by subst ets; rfl
              have e2 : ts.2.2.2.2.1 = 0 := by subst ets; rfl
              have e3 : ts.2.2.2.2.2 = 0 := by subst ets; rfl
              have et0 : x.t0 x.tapeLength = nxT x.tape x.tapeLength ts := by subst ets; rfl
              obtain ⟨sl1, sl2⟩ := st_len (f := x.tape) (n := x.tapeLength) (t := ts) (by rw [e1]; exact Nat.zero_le _)
              rw [← et0] at sl1 sl2
              obtain ⟨R, eR⟩ : ∃ R, R = qRd (pQ x.tape x.tapeLength (x.t0 x.tapeLength)) := ⟨_, rfl⟩
              have sl3 : (pQ x.tape x.tapeLength (x.t0 x.tapeLength)).2.2.length = R.2.2.length := by rw [eR, qRd_s]
              rw [← eR] at sl1 sl2
              have eRM : qRd0 M.tape M.length ts = R := by
                rw [eR, t1, t2, et0]
                rfl
              have hcp := cpR_b gq.eN 0 (pQ x.tape x.tapeLength (x.t0 x.tapeLength)).2.2.length
              obtain ⟨ra, rb⟩ := as_r1 (M := M) (a := fr) (b := wd) (n := nw) (ts := ts) haw e1 e2 e3
              rw [eRM] at ra rb
              have gzM : (M.as0 fr wd nw).gz := ⟨r10.1, n23⟩
              have gz1 := gz_qu gzM (as_1 haw)
              by_cases hcd : R.2.1.2.2.2.2.1 = 0
              · obtain ⟨R1, v, hq, vf, vp⟩ := ra hcd
                obtain ⟨S, eS⟩ : ∃ S, S = R.2.2 := ⟨_, rfl⟩
                have hRt : qRd (pQ x.tape x.tapeLength (x.t0 x.tapeLength)) = (true, R.2.1, S) := by
                  rw [← eR, eS]
                  exact Prod.ext R1 rfl
                rw [← eS] at sl1 sl2 sl3
                rw [hq] at gz1
                have gz1 : v.gz := gz1
                have k1 := as_q1 hq
                have hqW : v.qW true := as_2 haw w1 hnw hq
                obtain ⟨I1, I2, I3, I4, I5⟩ := as_I (la := la) k1 co rlt rls rla hnw ⟨fr0, fr1⟩ w1 hsc
                have vt : v.tape = M.tape := as_k k1 (fun m => m.tape = M.tape) (fun _ => rfl)
                have vl : v.length = M.length := as_k k1 (fun m => m.length = M.length) (fun _ => rfl)
                have eRv : qRd0 v.tape v.length ts = R := by rw [vt, vl]; exact eRM
                have r2c := as_r2 (v0 := v) (ts := ts) hqW vp e1 e2 e3 (by rw [eRv]; exact hcd) I1 I2 I3 I4 r5 rfl I5
                rw [eRv, ← eS] at r2c
                have gz2 := gz_qu gz1 hqW
                have aI : ∀ w : VS, x.aq x.tapeLength rq w → plF w.pl → asI x rq gk AT T fr wd nw (w.wk0 fr wd nw, gk, AT, T) := fun w hw hpw => ⟨w, hw, hpw, rfl⟩
                have hasF : M.asF fr wd nw = MS.as2 (v.quF true) := by
                  unfold MS.asF
                  rw [hq]
                  exact if_pos rfl
                rcases r2c with ⟨vv, hq2, hJ, hpi, hwo⟩ | ⟨vv, hq2, hF⟩
                · obtain ⟨cC, cS, σ, j1, j2, j3, j4, j5, j6, j7⟩ := as_w1 hJ hwo hpi
                  have hS0 : 0 < S.length := by
                    refine Nat.pos_of_ne_zero (fun z => ?_)
                    obtain ⟨_, σ2, _, _, _, _, s3, s4⟩ := hJ hwo
                    have hw0 : x.aq x.tapeLength rq (VS.s_ll (x.r0 x.tapeLength).aq0 rq) := ⟨x.r0 x.tapeLength, qr_rf _, rfl⟩
                    have s5 := (s4 _ (aI _ hw0 plx) ((VS.s_ll (x.r0 x.tapeLength).aq0 rq).wk0 fr wd nw, gk, AT, T) (by rw [z]; rfl)).1
                    have s6 : (0 : Nat) = σ2.1 := congrArg (fun q => q.1) s5
                    omega
                  have hasV : M.asF fr wd nw = (nI (vv.tableRows 0), MS.s_length vv.kpS 0) := by
                    rw [hasF, hq2]
                    unfold MS.as2
                    exact if_pos rfl
                  have hcells : 8 * x.tapeLength + cC S.length ≤ 17 * x.tapeLength := by omega
                  have hslots : 64 * x.tapeLength + 4 * (cpR gq.eN 0 (pQ x.tape x.tapeLength (x.t0 x.tapeLength)).2.2.length - gq.eN) + cS S.length + shQ (shp (VS.s_adep x 0, gk, AT, T)) ≤ 70 * x.tapeLength + 40 + shQ σ := by omega
                  have hr2 : ∀ u : VS, (∃ (y w0 w : VS) (gq' : LI) (a : SKT), (x.r0 x.tapeLength).qr y ∧ VS.pq dA e0 (ad 23) rq w0 (LI.s_el (LI.s_mc (LI.s_sz gq 0) (gq.mc + 1)) (clF gq.el gq.sz)) (qRd (pQ x.tape x.tapeLength (x.t0 x.tapeLength))) y gq' ∧ w = VS.s_ll y.aq0 rq ∧ plF w.pl ∧ wkR dA ad [] la PS SS nw S (w.wk0 fr wd nw, gk, AT, T) S.length a ∧ u = VS.s_ll a.1.at1 (LqW dA (ad 23) gq' ++ a.1.ll)) → Rl dA ad e0 (n + 1) u (MS.s_length vv.kpS 0) (cs + (8 * x.tapeLength + cC S.length) + 0 + 0) (ss + (64 * x.tapeLength + 4 * (cpR gq.eN 0 (pQ x.tape x.tapeLength (x.t0 x.tapeLength)).2.2.length - gq.eN) + cS S.length) + 0 + 0) := fun u hu => by
                    obtain ⟨y, w0, w, gq', a, u1, u2, u3, u4, u5, u6⟩ := hu
                    obtain ⟨q1, q2, ⟨NL, RS, q3, q4⟩, q5, q6⟩ := j7 _ (aI w ⟨y, u1, u3⟩ u4) a u5
                    rw [u6]
                    exact rl_as1 (σ := σ) co rlt rls nr rla rr (by omega) hq vp hqW hq2 j6.1.1 u1 u2 u3 u5 q1 j5 q2 q3 q4 q5 q6 (by omega) (by omega)
                  obtain ⟨rn1, rn2⟩ : cs + (8 * x.tapeLength + cC S.length) + 0 + 0 ≤ 601024 ∧ ss + (64 * x.tapeLength + 4 * (cpR gq.eN 0 (pQ x.tape x.tapeLength (x.t0 x.tapeLength)).2.2.length - gq.eN) + cS S.length) + 0 + 0 ≤ 7293034 := ask_room nr rlt rr r5 j5 hcells hslots
                  have W1 := fun sz => k8_ask l D dA sz e0 mi kA vA fm h ad o og x ((((xs (6 * n + 1)).toInt64) <<< ((32 : Int32).toInt64 &&& 63)) ||| (((xs (6 * n + 2)).toInt64) &&& 4294967295)) ((((xs (6 * n + 3)).toInt64) <<< ((32 : Int32).toInt64 &&& 63)) ||| (((xs (6 * n + 4)).toInt64) &&& 4294967295)) (xs (6 * n + 5)) (nI (vv.tableRows 0)) (fun u => ∃ (y w0 w : VS) (gq' : LI) (a : SKT), (x.r0 x.tapeLength).qr y ∧ VS.pq dA e0 (ad 23) rq w0 (LI.s_el (LI.s_mc (LI.s_sz gq 0) (gq.mc + 1)) (clF gq.el gq.sz)) (qRd (pQ x.tape x.tapeLength (x.t0 x.tapeLength))) y gq' ∧ w = VS.s_ll y.aq0 rq ∧ plF w.pl ∧ wkR dA ad [] la PS SS nw S (w.wk0 fr wd nw, gk, AT, T) S.length a ∧ u = VS.s_ll a.1.at1 (LqW dA (ad 23) gq' ++ a.1.ll)) _ _ _ _ (nf_i (S := VS × LI × VS × VS × VS × VS × LI × (Nat → Nat → Nat) × (Nat → TB)) (w := fun u => u.1) (fun sz => v_ask l D dA sz e0 mi kA vA fm h ad (ad 23) gq rq x fr wd nw la gk AT T S R.2.1 SS PS cC cS S.length hp tm w1 w2 hn1 hnw rfl r1 r2 hL16 t5 (by omega) t4 hRt hS0 r3 sr3 n4 n2 n3 hs7 n1 hpo hho n11 (by omega) (Nat.le_refl _) j1 (fun w i a hw hpw hi ha => j2 _ (aI w hw hpw) i a hi ha) (fun w a hw hpw hi ha => absurd hi (Nat.lt_irrefl _)) rfl (fun w a hw hpw ha => (j7 _ (aI w hw hpw) a ha).2.1)) (fun r u q => by
                    obtain ⟨q1, q2, q3, q4, q5, q6, q7⟩ := q
                    obtain ⟨-, -, ⟨NL, RS, p3, -⟩, -, -⟩ := j7 _ (aI _ ⟨_, q2, q4⟩ q5) _ q6
                    refine ⟨?_, u.2.2.2.1, u.2.2.1, u.2.2.2.2.1, u.2.1, (u.2.2.2.2.2.1, u.2.2.2.2.2.2.1, u.2.2.2.2.2.2.2.1, u.2.2.2.2.2.2.2.2), q2, q3, q4, q5, q6, q7⟩
                    exact q1.trans (congrArg nI p3.2.1.1.symm)) (fun _ _ _ q => by rw [← efr, ← ewd, enw] at q; exact q))
                  have M1 := nm_i (M1 := MS.s_length vv.kpS 0) (b := nI (vv.tableRows 0)) (Pc2 := fun sz => pC D dA [.ref mm, .long ((((xs (6 * n + 1)).toInt64) <<< ((32 : Int32).toInt64 &&& 63)) ||| (((xs (6 * n + 2)).toInt64) &&& 4294967295)), .long ((((xs (6 * n + 3)).toInt64) <<< ((32 : Int32).toInt64 &&& 63)) ||| (((xs (6 * n + 4)).toInt64) &&& 4294967295)), .int (xs (6 * n + 5))] (MW dA mm mad M) sz) (fun sz => k_ask l D dA sz mm mad M fr wd nw on fr0 fr1 w1 w2 hn1 hnw haw) (fun r u q => by rw [hasV] at q; exact ⟨q.1, q.2⟩) (fun _ _ _ q => by rw [← efr, ← ewd, enw] at q; exact q)
                  obtain ⟨c1, c3, c4, c5, c8, c9⟩ := as_M1 k1 co rls nr
                  exact l9_13 l hC hMi hQ hi hL ⟨by omega, by omega, by omega, by omega⟩ ⟨by omega, by omega⟩ (show (MS.s_length vv.kpS 0).cod = 0 from (as_M2 (m0 := M) (as_q2 hq2) c1 c3 c4 c5 c8 c9).2.2.2.2.2) rfl W1 M1 hP hD hS hl (fun u H1 locs1 ls1 hf2 hP hD hS hl => cont u _ _ _ (hr2 u hf2) _ H1 locs1 ls1 hP hD hS hl)
                · obtain ⟨k, cC, cS, σ, hkl, j1, j2, j3, j4, j5, j7, j8, j9⟩ := as_w2 hF
                  have hasV : M.asF fr wd nw = (-1, MS.s_length vv 0) := by
                    rw [hasF, hq2]
                    unfold MS.as2
                    exact if_neg (show ¬ (false = true) by decide)
                  rw [hq2] at gz2
                  have gz2 : vv.gz := gz2
                  have hpl : (S.getD k (spO 0 0 0)).2.1 < 2 ^ 31 := by
                    have := sl2 (S.getD k (spO 0 0 0)) (by rw [gD_el hkl]; exact List.getElem_mem hkl)
                    omega
                  have hcells : 8 * x.tapeLength + cC k ≤ 17 * x.tapeLength := by omega
                  have hslots : 64 * x.tapeLength + 4 * (cpR gq.eN 0 (pQ x.tape x.tapeLength (x.t0 x.tapeLength)).2.2.length - gq.eN) + cS k + shQ (shp (VS.s_adep x 0, gk, AT, T)) ≤ 70 * x.tapeLength + 40 + shQ σ := by omega
                  have hr2 : ∀ u : VS, (∃ (y w0 w b1 : VS) (gq' g1 : LI) (A1 : Nat → Nat → Nat) (T1 : Nat → TB) (a : SKT) (NL NR : Nat → List Int32) (RS RU : Nat → List LB), (x.r0 x.tapeLength).qr y ∧ VS.pq dA e0 (ad 23) rq w0 (LI.s_el (LI.s_mc (LI.s_sz gq 0) (gq.mc + 1)) (clF gq.el gq.sz)) (qRd (pQ x.tape x.tapeLength (x.t0 x.tapeLength))) y gq' ∧ w = VS.s_ll y.aq0 rq ∧ plF w.pl ∧ wkR dA ad [] la PS SS nw S (w.wk0 fr wd nw, gk, AT, T) k a ∧ jnC NL NR (a.2.2.2 (a.1.adep - 2)) (a.2.2.2 (a.1.adep - 1)) = 3 ∧ jnZ dA ad [] la (S.getD k (spO 0 0 0)).1 NL NR RS RU a.1 a.2.1 a.2.2.1 a.2.2.2 b1 g1 A1 T1 ∧ u = VS.s_ll (b1.at5 (nI (S.getD k (spO 0 0 0)).2.1)) (LqW dA (ad 23) gq' ++ b1.ll)) → Rl dA ad e0 (n + 1) u (MS.s_length vv 0) (cs + (8 * x.tapeLength + cC k) + 0 + 0) (ss + (64 * x.tapeLength + 4 * (cpR gq.eN 0 (pQ x.tape x.tapeLength (x.t0 x.tapeLength)).2.2.length - gq.eN) + cS k) + 0 + 0) := fun u hu => by
                    obtain ⟨y, w0, w, b1, gq', g1, A1, T1, a, NL, NR, RS, RU, u1, u2, u3, u4, u5, u6, u7, u8⟩ := hu
                    obtain ⟨q1, q2, q5, q6⟩ := j7 _ (aI w ⟨y, u1, u3⟩ u4) a u5
                    rw [u8]
                    exact rl_as5 (σ := σ) co rlt rls nr rla rr (by omega) hq hq2 gz2.1 j8 j9 u1 u2 u3 u5 q1 j5 ⟨q2.2.1, q2.2.2.1⟩ u6 u7 q5 q6 (by omega) (by omega)
                  obtain ⟨rn1, rn2⟩ : cs + (8 * x.tapeLength + cC k) + 0 + 0 ≤ 601024 ∧ ss + (64 * x.tapeLength + 4 * (cpR gq.eN 0 (pQ x.tape x.tapeLength (x.t0 x.tapeLength)).2.2.length - gq.eN) + cS k) + 0 + 0 ≤ 7293034 := ask_room nr rlt rr r5 j5 hcells hslots
                  have W1 := fun sz => k8_ask l D dA sz e0 mi kA vA fm h ad o og x ((((xs (6 * n + 1)).toInt64) <<< ((32 : Int32).toInt64 &&& 63)) ||| (((xs (6 * n + 2)).toInt64) &&& 4294967295)) ((((xs (6 * n + 3)).toInt64) <<< ((32 : Int32).toInt64 &&& 63)) ||| (((xs (6 * n + 4)).toInt64) &&& 4294967295)) (xs (6 * n + 5)) (-1) (fun u => ∃ (y w0 w b1 : VS) (gq' g1 : LI) (A1 : Nat → Nat → Nat) (T1 : Nat → TB) (a : SKT) (NL NR : Nat → List Int32) (RS RU : Nat → List LB), (x.r0 x.tapeLength).qr y ∧ VS.pq dA e0 (ad 23) rq w0 (LI.s_el (LI.s_mc (LI.s_sz gq 0) (gq.mc + 1)) (clF gq.el gq.sz)) (qRd (pQ x.tape x.tapeLength (x.t0 x.tapeLength))) y gq' ∧ w = VS.s_ll y.aq0 rq ∧ plF w.pl ∧ wkR dA ad [] la PS SS nw S (w.wk0 fr wd nw, gk, AT, T) k a ∧ jnC NL NR (a.2.2.2 (a.1.adep - 2)) (a.2.2.2 (a.1.adep - 1)) = 3 ∧ jnZ dA ad [] la (S.getD k (spO 0 0 0)).1 NL NR RS RU a.1 a.2.1 a.2.2.1 a.2.2.2 b1 g1 A1 T1 ∧ u = VS.s_ll (b1.at5 (nI (S.getD k (spO 0 0 0)).2.1)) (LqW dA (ad 23) gq' ++ b1.ll)) _ _ _ _ (nf_i (S := VS × LI × VS × VS × VS × VS × LI × (Nat → Nat → Nat) × (Nat → TB)) (w := fun u => u.1) (fun sz => v_ask_g l D dA sz e0 mi kA vA fm h ad (ad 23) gq rq x fr wd nw la gk AT T S R.2.1 SS PS cC cS k hp tm w1 w2 hn1 hnw rfl r1 r2 hL16 t5 (by omega) t4 hRt (by omega) r3 sr3 n4 n2 n3 hs7 n1 hpo hho n11 (by omega) (by omega) j1 (fun w i a hw hpw hi ha => j2 _ (aI w hw hpw) i a hi ha) (fun w a hw hpw hi ha => (j7 _ (aI w hw hpw) a ha).2.1) hkl hpl) (fun r u q => by
                    obtain ⟨q1, q2, q3, q4, q5, ⟨a, NL, NR, RS, RU, wi, p1, p2, p3, p4, p5⟩, q7⟩ := q
                    exact ⟨q1, u.2.2.2.1, u.2.2.1, u.2.2.2.2.1, u.2.2.2.2.2.1, u.2.1, u.2.2.2.2.2.2.1, u.2.2.2.2.2.2.2.1, u.2.2.2.2.2.2.2.2, a, NL, NR, RS, RU, q2, q3, q4, q5, p1, p4, p5, q7⟩) (fun _ _ _ q => by rw [← efr, ← ewd, enw] at q; exact q))
                  have M1 := nm_i (M1 := MS.s_length vv 0) (b := -1) (Pc2 := fun sz => pC D dA [.ref mm, .long ((((xs (6 * n + 1)).toInt64) <<< ((32 : Int32).toInt64 &&& 63)) ||| (((xs (6 * n + 2)).toInt64) &&& 4294967295)), .long ((((xs (6 * n + 3)).toInt64) <<< ((32 : Int32).toInt64 &&& 63)) ||| (((xs (6 * n + 4)).toInt64) &&& 4294967295)), .int (xs (6 * n + 5))] (MW dA mm mad M) sz) (fun sz => k_ask l D dA sz mm mad M fr wd nw on fr0 fr1 w1 w2 hn1 hnw haw) (fun r u q => by rw [hasV] at q; exact ⟨q.1, q.2⟩) (fun _ _ _ q => by rw [← efr, ← ewd, enw] at q; exact q)
                  obtain ⟨c1, c3, c4, c5, c8, c9⟩ := as_M1 k1 co rls nr
                  exact l9_13 l hC hMi hQ hi hL ⟨by omega, by omega, by omega, by omega⟩ ⟨by omega, by omega⟩ (show (MS.s_length vv 0).cod = 0 from (as_M2 (m0 := M) (as_q2 hq2) c1 c3 c4 c5 c8 c9).2.2.2.2.2) rfl W1 M1 hP hD hS hl (fun u H1 locs1 ls1 hf2 hP hD hS hl => cont u _ _ _ (hr2 u hf2) _ H1 locs1 ls1 hP hD hS hl)
              · obtain ⟨R1, v, hq, hfl⟩ := rb hcd
                rw [hq] at gz1
                have gz1 : v.gz := gz1
                have hasV : M.asF fr wd nw = (-1, MS.s_length v 0) := by
                  unfold MS.asF
                  rw [hq]
                  exact if_neg (show ¬ (false = true) by decide)
                have hslots : 64 * x.tapeLength + 4 * (cpR gq.eN 0 (pQ x.tape x.tapeLength (x.t0 x.tapeLength)).2.2.length - gq.eN) ≤ 70 * x.tapeLength + 40 := by omega
                have hr2 : ∀ u : VS, (∃ (y w0 : VS) (gq' : LI), (x.r0 x.tapeLength).qr y ∧ VS.pq dA e0 (ad 23) rq w0 (LI.s_el (LI.s_mc (LI.s_sz gq 0) (gq.mc + 1)) (clF gq.el gq.sz)) (qRd (pQ x.tape x.tapeLength (x.t0 x.tapeLength))) y gq' ∧ u = y.af0) → Rl dA ad e0 (n + 1) u (MS.s_length v 0) (cs + 8 * x.tapeLength + 0 + 0) (ss + (64 * x.tapeLength + 4 * (cpR gq.eN 0 (pQ x.tape x.tapeLength (x.t0 x.tapeLength)).2.2.length - gq.eN)) + 0 + 0) := fun u hu => by
                  obtain ⟨y, w0, gq', u1, u2, u3⟩ := hu
                  rw [u3]
                  exact rl_asf co rlt rls nr rla rr (by omega) hq gz1.1 (by rw [eR] at hfl; exact hfl) u1 u2 (by omega) (by omega)
                obtain ⟨rn1, rn2⟩ : cs + 8 * x.tapeLength + 0 + 0 ≤ 601024 ∧ ss + (64 * x.tapeLength + 4 * (cpR gq.eN 0 (pQ x.tape x.tapeLength (x.t0 x.tapeLength)).2.2.length - gq.eN)) + 0 + 0 ≤ 7293034 := by
                  have q := ask_room (mc := 8 * x.tapeLength) (ms := 64 * x.tapeLength + 4 * (cpR gq.eN 0 (pQ x.tape x.tapeLength (x.t0 x.tapeLength)).2.2.length - gq.eN)) (cS := 0) (σ := shp (VS.s_adep x 0, gk, AT, T)) nr rlt rr r5 r5 (by omega) (by omega)
                  exact q
                have W1 := fun sz => k8_ask l D dA sz e0 mi kA vA fm h ad o og x ((((xs (6 * n + 1)).toInt64) <<< ((32 : Int32).toInt64 &&& 63)) ||| (((xs (6 * n + 2)).toInt64) &&& 4294967295)) ((((xs (6 * n + 3)).toInt64) <<< ((32 : Int32).toInt64 &&& 63)) ||| (((xs (6 * n + 4)).toInt64) &&& 4294967295)) (xs (6 * n + 5)) (-1) (fun u => ∃ (y w0 : VS) (gq' : LI), (x.r0 x.tapeLength).qr y ∧ VS.pq dA e0 (ad 23) rq w0 (LI.s_el (LI.s_mc (LI.s_sz gq 0) (gq.mc + 1)) (clF gq.el gq.sz)) (qRd (pQ x.tape x.tapeLength (x.t0 x.tapeLength))) y gq' ∧ u = y.af0) _ _ _ _ (nf_i (S := VS × LI × VS × VS) (w := fun u => u.1) (fun sz => v_ask_f l D dA sz e0 mi kA vA fm h ad (ad 23) gq rq x fr wd nw hp tm w1 w2 hn1 hnw rfl r1 r2 hL16 t5 (by omega) t4 (by rw [← eR]; exact R1)) (fun r u q => ⟨q.1, u.2.2.2, u.2.2.1, u.2.1, q.2.1, q.2.2.1, q.2.2.2⟩) (fun _ _ _ q => by rw [← efr, ← ewd, enw] at q; exact q))
                have M1 := nm_i (M1 := MS.s_length v 0) (b := -1) (Pc2 := fun sz => pC D dA [.ref mm, .long ((((xs (6 * n + 1)).toInt64) <<< ((32 : Int32).toInt64 &&& 63)) ||| (((xs (6 * n + 2)).toInt64) &&& 4294967295)), .long ((((xs (6 * n + 3)).toInt64) <<< ((32 : Int32).toInt64 &&& 63)) ||| (((xs (6 * n + 4)).toInt64) &&& 4294967295)), .int (xs (6 * n + 5))] (MW dA mm mad M) sz) (fun sz => k_ask l D dA sz mm mad M fr wd nw on fr0 fr1 w1 w2 hn1 hnw haw) (fun r u q => by rw [hasV] at q; exact ⟨q.1, q.2⟩) (fun _ _ _ q => by rw [← efr, ← ewd, enw] at q; exact q)
                exact l9_13 l hC hMi hQ hi hL ⟨by omega, by omega, by omega, by omega⟩ ⟨by omega, by omega⟩ (show (MS.s_length v 0).cod = 0 from (as_M1 (as_q1 hq) co rls nr).2.2.2.2.2) rfl W1 M1 hP hD hS hl (fun u H1 locs1 ls1 hf2 hP hD hS hl => cont u _ _ _ (hr2 u hf2) _ H1 locs1 ls1 hP hD hS hl)
end CK13
