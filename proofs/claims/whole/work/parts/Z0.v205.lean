/-! A point comes: the call. -/
theorem may_f {x : VS} {w : Nat} {a : Int64} (h : x.may w a = false) : a < 0 ∨ 1099511627775 < a ∨ a ≤ x.nlast w ∨ a < x.nhor := by
  by_cases c1 : a < 0
  · exact Or.inl c1
  · by_cases c2 : 1099511627775 < a
    · exact Or.inr (Or.inl c2)
    · by_cases c3 : a ≤ x.nlast w
      · exact Or.inr (Or.inr (Or.inl c3))
      · by_cases c4 : a < x.nhor
        · exact Or.inr (Or.inr (Or.inr c4))
        · refine absurd h ?_
          unfold VS.may isTm
          rw [decide_eq_false c1, decide_eq_false c2, decide_eq_false c3, decide_eq_false c4]
          decide
theorem may_t {x : VS} {w : Nat} {a : Int64} (h : x.may w a = true) : ¬ a < 0 ∧ ¬ 1099511627775 < a ∧ ¬ a ≤ x.nlast w ∧ ¬ a < x.nhor := by
  unfold VS.may isTm at h
  rw [Bool.and_eq_true, Bool.and_eq_true, Bool.and_eq_true, nd, nd, nd, nd] at h
  exact ⟨h.1.1, h.1.2, h.2.1, h.2.2⟩
section CG
variable {p : Program} {e : Env} {s : State} {m : MethodId} {below : List Frame} {meth : Method} {c : Code} {b L : Nat} {xs : Nat → Int32} {D : va_G} {dA : Nat → ClassId} {e0 : Nat} {A : Nat → Prop} {h : Nat} {ad : Nat → Nat} {mm : Nat} {mad : Nat → Nat} {o : Nat} {n : Nat} {x : VS} {M : MS} {cs ss : Nat}

theorem call_6 (l : Launch) (hC : lS p l s m meth c b L xs D dA e0 A) (hL : L ≤ 3072) (hi : 6 * n + 6 ≤ L) (hR : Rl dA ad e0 n x M cs ss) (cont : ∀ x' M' cs' ss', Rl dA ad e0 (n + 1) x' M' cs' ss' → At9 p l e s m below meth c b D dA A h ad mm mad o 23 (6 * n + 6) x' M' cs' ss') : At9 p l e s m below meth c b D dA A h ad mm mad o (tg9 6) (6 * n) x M cs ss := by
  intro og H locs ls hP hD hS hl
  obtain ⟨rm1, rm2⟩ := rl_room (rl_skip hR (by omega))
  obtain ⟨PS, SS, dn, bn, gq, rq, la, gk, AT, T, co, ⟨⟨t1, t2, t3, t4⟩, ⟨t5, t6, t7⟩, ⟨t8, t9⟩, t10, t11, t12⟩, ⟨sr1, sr2, sr3, sr4, sr5⟩, nr, ⟨⟨r1, r2, r3, r4⟩, r5, ⟨r6, r7⟩, ⟨r8, r9⟩, r10⟩, rr⟩ := id hR
  obtain ⟨cp, cb, ⟨se1, se2⟩, ⟨g1, g2, g3, g4, g5, g6, g7, g8, g9, g10, g11⟩, cj, ck, cc⟩ := id co
  obtain ⟨⟨n1, n2, n3, n4⟩, ⟨n5, n6, n7⟩, ⟨n8, n9, n10, n11, n12, n13, n14, n15⟩, ⟨n16, n17, n18, n19⟩, ⟨n20, n21, n22, n23⟩, n24⟩ := id nr
  cases hp : x.powered with
  | false =>
    have hr2 := rl_up (cs' := cs + 1 + 0 + 0) (ss' := ss + 6 + 0 + 0) hR (by omega) 1 (by omega) (by omega)
    obtain ⟨rn1, rn2⟩ := rl_room hr2
    have W1 := fun sz => k8_append_1 l D dA sz h ad o og x (xs (6 * n + 1)) ((((xs (6 * n + 2)).toInt64) <<< ((32 : Int32).toInt64 &&& 63)) ||| (((xs (6 * n + 3)).toInt64) &&& 4294967295)) ((((xs (6 * n + 4)).toInt64) <<< ((32 : Int32).toInt64 &&& 63)) ||| (((xs (6 * n + 5)).toInt64) &&& 4294967295)) (fun u => u = x) _ _ _ _ (nf_x0 (fun sz => v_append_1 l (lS_tr hC) D dA sz h ad x (xs (6 * n + 1)) ((((xs (6 * n + 2)).toInt64) <<< ((32 : Int32).toInt64 &&& 63)) ||| (((xs (6 * n + 3)).toInt64) &&& 4294967295)) ((((xs (6 * n + 4)).toInt64) <<< ((32 : Int32).toInt64 &&& 63)) ||| (((xs (6 * n + 5)).toInt64) &&& 4294967295)) hp) rfl (fun _ _ _ q => q))
    have M1 := fun sz => k_append_1 l D dA sz mm mad M (xs (6 * n + 1)) ((((xs (6 * n + 2)).toInt64) <<< ((32 : Int32).toInt64 &&& 63)) ||| (((xs (6 * n + 3)).toInt64) &&& 4294967295)) ((((xs (6 * n + 4)).toInt64) <<< ((32 : Int32).toInt64 &&& 63)) ||| (((xs (6 * n + 5)).toInt64) &&& 4294967295)) (t12.trans hp)
    exact l9_6_x l hC (k9 := 1) hi hL ⟨by omega, by omega, by omega, by omega⟩ ⟨by omega, by omega⟩ rfl k_n1 W1 M1 hP hD hS hl (fun u H1 locs1 ls1 hf hP hD hS hl => cont u _ _ _ (by rw [show u = x from hf]; exact hr2) og H1 locs1 ls1 hP hD hS hl)
  | true =>
    have on : M.on = true := t12.trans hp
    by_cases hv : xs (6 * n + 1) < 0 ∨ nI x.nser ≤ xs (6 * n + 1)
    · have hr2 := rl_up (cs' := cs + 1 + 0 + 0) (ss' := ss + 6 + 0 + 0) hR (by omega) 2 (by omega) (by omega)
      obtain ⟨rn1, rn2⟩ := rl_room hr2
      have W1 := fun sz => k8_append_2 l D dA sz h ad o og x (xs (6 * n + 1)) ((((xs (6 * n + 2)).toInt64) <<< ((32 : Int32).toInt64 &&& 63)) ||| (((xs (6 * n + 3)).toInt64) &&& 4294967295)) ((((xs (6 * n + 4)).toInt64) <<< ((32 : Int32).toInt64 &&& 63)) ||| (((xs (6 * n + 5)).toInt64) &&& 4294967295)) (fun u => u = x) _ _ _ _ (nf_x0 (fun sz => v_append_2 l (lS_tr hC) D dA sz h ad x (xs (6 * n + 1)) ((((xs (6 * n + 2)).toInt64) <<< ((32 : Int32).toInt64 &&& 63)) ||| (((xs (6 * n + 3)).toInt64) &&& 4294967295)) ((((xs (6 * n + 4)).toInt64) <<< ((32 : Int32).toInt64 &&& 63)) ||| (((xs (6 * n + 5)).toInt64) &&& 4294967295)) hp hv) rfl (fun _ _ _ q => q))
      have M1 := fun sz => k_append_2 l D dA sz mm mad M (xs (6 * n + 1)) ((((xs (6 * n + 2)).toInt64) <<< ((32 : Int32).toInt64 &&& 63)) ||| (((xs (6 * n + 3)).toInt64) &&& 4294967295)) ((((xs (6 * n + 4)).toInt64) <<< ((32 : Int32).toInt64 &&& 63)) ||| (((xs (6 * n + 5)).toInt64) &&& 4294967295)) on (by rw [se1]; exact hv)
      exact l9_6_x l hC (k9 := 2) hi hL ⟨by omega, by omega, by omega, by omega⟩ ⟨by omega, by omega⟩ rfl k_n2 W1 M1 hP hD hS hl (fun u H1 locs1 ls1 hf hP hD hS hl => cont u _ _ _ (by rw [show u = x from hf]; exact hr2) og H1 locs1 ls1 hP hD hS hl)
    · obtain ⟨w, hw, ew⟩ := i32_lt (a := x.nser) (by omega) (fun z => hv (Or.inl z)) (fun z => hv (Or.inr z))
      have hw2 : w < M.seriesCount := by omega
      have hsc : M.seriesCount ≤ 256 := by omega
      have ehz : M.horizon = x.nhor := cp.1.2.2.1
      have elw : M.lasts w = x.nlast w := se2 w hw
      have hjl : M.journal ≤ 256 := by omega
      have hus : M.used ≤ 126 := by omega
      have hbk : M.block < 2 ^ 20 := by omega
      cases hm : x.may w ((((xs (6 * n + 2)).toInt64) <<< ((32 : Int32).toInt64 &&& 63)) ||| (((xs (6 * n + 3)).toInt64) &&& 4294967295)) with
      | false =>
        have hr2 := rl_up (cs' := cs + 1 + 0 + 0) (ss' := ss + 6 + 0 + 0) hR (by omega) 3 (by omega) (by omega)
        obtain ⟨rn1, rn2⟩ := rl_room hr2
        have W1 := fun sz => k8_append_3 l D dA sz h ad o og x (xs (6 * n + 1)) ((((xs (6 * n + 2)).toInt64) <<< ((32 : Int32).toInt64 &&& 63)) ||| (((xs (6 * n + 3)).toInt64) &&& 4294967295)) ((((xs (6 * n + 4)).toInt64) <<< ((32 : Int32).toInt64 &&& 63)) ||| (((xs (6 * n + 5)).toInt64) &&& 4294967295)) (fun u => u = x) _ _ _ _ (nf_x0 (fun sz => v_append_3 l (lS_tr hC) D dA sz h ad x w ((((xs (6 * n + 2)).toInt64) <<< ((32 : Int32).toInt64 &&& 63)) ||| (((xs (6 * n + 3)).toInt64) &&& 4294967295)) ((((xs (6 * n + 4)).toInt64) <<< ((32 : Int32).toInt64 &&& 63)) ||| (((xs (6 * n + 5)).toInt64) &&& 4294967295)) hp hw n1 hm) rfl (fun _ _ _ q => by rw [ew] at q; exact q))
        have M1 := nm_i (M1 := MS.s_cod M 3) (b := 0) (Pc2 := fun sz => pC D dA [.ref mm, .int (xs (6 * n + 1)), .long ((((xs (6 * n + 2)).toInt64) <<< ((32 : Int32).toInt64 &&& 63)) ||| (((xs (6 * n + 3)).toInt64) &&& 4294967295)), .long ((((xs (6 * n + 4)).toInt64) <<< ((32 : Int32).toInt64 &&& 63)) ||| (((xs (6 * n + 5)).toInt64) &&& 4294967295))] (MW dA mm mad M) sz) (fun sz => k_append_3 l D dA sz mm mad M w ((((xs (6 * n + 2)).toInt64) <<< ((32 : Int32).toInt64 &&& 63)) ||| (((xs (6 * n + 3)).toInt64) &&& 4294967295)) ((((xs (6 * n + 4)).toInt64) <<< ((32 : Int32).toInt64 &&& 63)) ||| (((xs (6 * n + 5)).toInt64) &&& 4294967295)) on hw2 hsc (by rw [elw, ehz]; exact may_f hm)) (fun r u q => ⟨q, rfl⟩) (fun _ _ _ q => by rw [ew] at q; exact q)
        exact l9_6_x l hC (k9 := 3) hi hL ⟨by omega, by omega, by omega, by omega⟩ ⟨by omega, by omega⟩ rfl k_n3 W1 M1 hP hD hS hl (fun u H1 locs1 ls1 hf hP hD hS hl => cont u _ _ _ (by rw [show u = x from hf]; exact hr2) og H1 locs1 ls1 hP hD hS hl)
      | true =>
        obtain ⟨y1, y2, y3, y4⟩ := may_t hm
        have z3 : ¬ ((((xs (6 * n + 2)).toInt64) <<< ((32 : Int32).toInt64 &&& 63)) ||| (((xs (6 * n + 3)).toInt64) &&& 4294967295)) ≤ M.lasts w := by rw [elw]; exact y3
        have z4 : M.horizon ≤ ((((xs (6 * n + 2)).toInt64) <<< ((32 : Int32).toInt64 &&& 63)) ||| (((xs (6 * n + 3)).toInt64) &&& 4294967295)) := by rw [ehz]; exact Int64.not_lt.mp y4
        have erm : M.room 1 = x.room 1 := room_eq ⟨g1, g2, g3, g4, g5, g6, g7, g8, g9, g10, g11⟩ 1
        cases hro : x.room 1 with
        | false =>
          have hr2 := rl_up (cs' := cs + 1 + 0 + 0) (ss' := ss + 6 + 0 + 0) hR (by omega) 4 (by omega) (by omega)
          obtain ⟨rn1, rn2⟩ := rl_room hr2
          have W1 := fun sz => k8_append_4 l D dA sz h ad o og x (xs (6 * n + 1)) ((((xs (6 * n + 2)).toInt64) <<< ((32 : Int32).toInt64 &&& 63)) ||| (((xs (6 * n + 3)).toInt64) &&& 4294967295)) ((((xs (6 * n + 4)).toInt64) <<< ((32 : Int32).toInt64 &&& 63)) ||| (((xs (6 * n + 5)).toInt64) &&& 4294967295)) (fun u => u = x) _ _ _ _ (nf_x0 (fun sz => v_append_4 l (lS_tr hC) D dA sz h ad x w ((((xs (6 * n + 2)).toInt64) <<< ((32 : Int32).toInt64 &&& 63)) ||| (((xs (6 * n + 3)).toInt64) &&& 4294967295)) ((((xs (6 * n + 4)).toInt64) <<< ((32 : Int32).toInt64 &&& 63)) ||| (((xs (6 * n + 5)).toInt64) &&& 4294967295)) hp hw n1 hm (by omega) (by omega) (by omega) hro) rfl (fun _ _ _ q => by rw [ew] at q; exact q))
          have M1 := nm_i (M1 := MS.s_cod M 4) (b := 0) (Pc2 := fun sz => pC D dA [.ref mm, .int (xs (6 * n + 1)), .long ((((xs (6 * n + 2)).toInt64) <<< ((32 : Int32).toInt64 &&& 63)) ||| (((xs (6 * n + 3)).toInt64) &&& 4294967295)), .long ((((xs (6 * n + 4)).toInt64) <<< ((32 : Int32).toInt64 &&& 63)) ||| (((xs (6 * n + 5)).toInt64) &&& 4294967295))] (MW dA mm mad M) sz) (fun sz => k_append_4 l D dA sz mm mad M w ((((xs (6 * n + 2)).toInt64) <<< ((32 : Int32).toInt64 &&& 63)) ||| (((xs (6 * n + 3)).toInt64) &&& 4294967295)) ((((xs (6 * n + 4)).toInt64) <<< ((32 : Int32).toInt64 &&& 63)) ||| (((xs (6 * n + 5)).toInt64) &&& 4294967295)) on hw2 hsc y1 y2 z3 z4 hus hbk hjl (erm.trans hro)) (fun r u q => ⟨q, rfl⟩) (fun _ _ _ q => by rw [ew] at q; exact q)
          exact l9_6_x l hC (k9 := 4) hi hL ⟨by omega, by omega, by omega, by omega⟩ ⟨by omega, by omega⟩ rfl k_n4 W1 M1 hP hD hS hl (fun u H1 locs1 ls1 hf hP hD hS hl => cont u _ _ _ (by rw [show u = x from hf]; exact hr2) og H1 locs1 ls1 hP hD hS hl)
        | true =>
          by_cases hcr : x.jfill + 1 ≤ 126 ∨ x.jch = false ∨ ¬ x.cutLeft = 0
          · have hr2 := rl_ap (w := w) (a := ((((xs (6 * n + 2)).toInt64) <<< ((32 : Int32).toInt64 &&& 63)) ||| (((xs (6 * n + 3)).toInt64) &&& 4294967295))) hR (by omega) hw hm hro (fun _ => 0) (fun _ => 0) ((((xs (6 * n + 4)).toInt64) <<< ((32 : Int32).toInt64 &&& 63)) ||| (((xs (6 * n + 5)).toInt64) &&& 4294967295))
            obtain ⟨rn1, rn2⟩ := rl_room hr2
            have co2 := ap_co (ja := fun _ => 0) (pa := fun _ => 0) (b := ((((xs (6 * n + 4)).toInt64) <<< ((32 : Int32).toInt64 &&& 63)) ||| (((xs (6 * n + 5)).toInt64) &&& 4294967295))) co hw hm ⟨n8, n9⟩ ⟨n11, n12⟩
            have ehd : (((M.s_cod 0).recS 1 w ((((xs (6 * n + 2)).toInt64) <<< ((32 : Int32).toInt64 &&& 63)) ||| (((xs (6 * n + 3)).toInt64) &&& 4294967295)) ((((xs (6 * n + 4)).toInt64) <<< ((32 : Int32).toInt64 &&& 63)) ||| (((xs (6 * n + 5)).toInt64) &&& 4294967295)) 1).comS w ((((xs (6 * n + 2)).toInt64) <<< ((32 : Int32).toInt64 &&& 63)) ||| (((xs (6 * n + 3)).toInt64) &&& 4294967295)) ((((xs (6 * n + 4)).toInt64) <<< ((32 : Int32).toInt64 &&& 63)) ||| (((xs (6 * n + 5)).toInt64) &&& 4294967295))).heads = x.hsize + 1 := (heads_eq co2.1).trans (apF_b x _ _ w _ _ hm).2.2.2.2.2.2.2.1
            have hcm : M.canR 1 := by
              unfold MS.canR
              rw [g4, g5, g6]
              exact hcr
            have W1 := fun sz => k8_append l D dA sz h ad o og x (xs (6 * n + 1)) ((((xs (6 * n + 2)).toInt64) <<< ((32 : Int32).toInt64 &&& 63)) ||| (((xs (6 * n + 3)).toInt64) &&& 4294967295)) ((((xs (6 * n + 4)).toInt64) <<< ((32 : Int32).toInt64 &&& 63)) ||| (((xs (6 * n + 5)).toInt64) &&& 4294967295)) (nI (x.hsize + 1)) (fun u => ∃ ja pa : Nat → Nat, u = x.apF ja pa w ((((xs (6 * n + 2)).toInt64) <<< ((32 : Int32).toInt64 &&& 63)) ||| (((xs (6 * n + 3)).toInt64) &&& 4294967295)) ((((xs (6 * n + 4)).toInt64) <<< ((32 : Int32).toInt64 &&& 63)) ||| (((xs (6 * n + 5)).toInt64) &&& 4294967295))) _ _ _ _ (nf_i (fun sz => v_append l D dA sz h ad x w ((((xs (6 * n + 2)).toInt64) <<< ((32 : Int32).toInt64 &&& 63)) ||| (((xs (6 * n + 3)).toInt64) &&& 4294967295)) ((((xs (6 * n + 4)).toInt64) <<< ((32 : Int32).toInt64 &&& 63)) ||| (((xs (6 * n + 5)).toInt64) &&& 4294967295)) hp hw n1 hm (by omega) (by omega) (by omega) hro n8 n9 (by omega) hcr n11 n12 (by omega)) (fun r u q => by
              obtain ⟨q1, ja, pa, q2⟩ := q
              exact ⟨by rw [q1, q2, (apF_b x ja pa w _ _ hm).2.2.2.2.2.2.2.1], ja, pa, q2⟩) (fun _ _ _ q => by rw [ew] at q; exact q))
            have M1 := nm_i (M1 := ((M.s_cod 0).recS 1 w ((((xs (6 * n + 2)).toInt64) <<< ((32 : Int32).toInt64 &&& 63)) ||| (((xs (6 * n + 3)).toInt64) &&& 4294967295)) ((((xs (6 * n + 4)).toInt64) <<< ((32 : Int32).toInt64 &&& 63)) ||| (((xs (6 * n + 5)).toInt64) &&& 4294967295)) 1).comS w ((((xs (6 * n + 2)).toInt64) <<< ((32 : Int32).toInt64 &&& 63)) ||| (((xs (6 * n + 3)).toInt64) &&& 4294967295)) ((((xs (6 * n + 4)).toInt64) <<< ((32 : Int32).toInt64 &&& 63)) ||| (((xs (6 * n + 5)).toInt64) &&& 4294967295))) (b := nI (((M.s_cod 0).recS 1 w ((((xs (6 * n + 2)).toInt64) <<< ((32 : Int32).toInt64 &&& 63)) ||| (((xs (6 * n + 3)).toInt64) &&& 4294967295)) ((((xs (6 * n + 4)).toInt64) <<< ((32 : Int32).toInt64 &&& 63)) ||| (((xs (6 * n + 5)).toInt64) &&& 4294967295)) 1).comS w ((((xs (6 * n + 2)).toInt64) <<< ((32 : Int32).toInt64 &&& 63)) ||| (((xs (6 * n + 3)).toInt64) &&& 4294967295)) ((((xs (6 * n + 4)).toInt64) <<< ((32 : Int32).toInt64 &&& 63)) ||| (((xs (6 * n + 5)).toInt64) &&& 4294967295))).heads) (Pc2 := fun sz => pC D dA [.ref mm, .int (xs (6 * n + 1)), .long ((((xs (6 * n + 2)).toInt64) <<< ((32 : Int32).toInt64 &&& 63)) ||| (((xs (6 * n + 3)).toInt64) &&& 4294967295)), .long ((((xs (6 * n + 4)).toInt64) <<< ((32 : Int32).toInt64 &&& 63)) ||| (((xs (6 * n + 5)).toInt64) &&& 4294967295))] (MW dA mm mad M) sz) (fun sz => k_append_0 l D dA sz mm mad M w ((((xs (6 * n + 2)).toInt64) <<< ((32 : Int32).toInt64 &&& 63)) ||| (((xs (6 * n + 3)).toInt64) &&& 4294967295)) ((((xs (6 * n + 4)).toInt64) <<< ((32 : Int32).toInt64 &&& 63)) ||| (((xs (6 * n + 5)).toInt64) &&& 4294967295)) on hw2 hsc y1 y2 z3 z4 hus hbk hjl (erm.trans hro) (by omega) (by omega) hcm) (fun r u q => ⟨by rw [q.1, q.2], q.2⟩) (fun _ _ _ q => by rw [ew] at q; exact q)
            exact l9_6 l hC hi hL ⟨by omega, by omega, by omega, by omega⟩ ⟨by omega, by omega⟩ rfl (by rw [ehd]) W1 M1 hP hD hS hl (fun u H1 locs1 ls1 hf hP hD hS hl => by
              obtain ⟨ja, pa, eu⟩ := hf
              refine cont u _ _ _ ?_ _ H1 locs1 ls1 hP hD hS hl
              rw [eu]
              exact rl_ap hR (by omega) hw hm hro ja pa _)
          · obtain ⟨v1, v2⟩ := not_or.mp hcr
            obtain ⟨v2, v3⟩ := not_or.mp v2
            have v2 : x.jch = true := by
              cases e : x.jch with
              | true => rfl
              | false => exact absurd e v2
            have v3 : x.cutLeft = 0 := Decidable.not_not.mp v3
            have hr2 := rl_pw (cs' := cs + 1 + 0 + 0) (ss' := ss + 6 + 0 + 0) hR (by omega) 1 (by omega) (by omega)
            obtain ⟨rn1, rn2⟩ := rl_room hr2
            have W1 := fun sz => k8_append_1 l D dA sz h ad o og x (xs (6 * n + 1)) ((((xs (6 * n + 2)).toInt64) <<< ((32 : Int32).toInt64 &&& 63)) ||| (((xs (6 * n + 3)).toInt64) &&& 4294967295)) ((((xs (6 * n + 4)).toInt64) <<< ((32 : Int32).toInt64 &&& 63)) ||| (((xs (6 * n + 5)).toInt64) &&& 4294967295)) (fun u => u = VS.s_cutLeft (VS.s_powered x false) (-1)) _ _ _ _ (nf_x0 (fun sz => v_append_5 l (lS_tr hC) D dA sz h ad x w ((((xs (6 * n + 2)).toInt64) <<< ((32 : Int32).toInt64 &&& 63)) ||| (((xs (6 * n + 3)).toInt64) &&& 4294967295)) ((((xs (6 * n + 4)).toInt64) <<< ((32 : Int32).toInt64 &&& 63)) ||| (((xs (6 * n + 5)).toInt64) &&& 4294967295)) hp hw n1 hm (by omega) (by omega) (by omega) hro (by omega) v2 v3) rfl (fun _ _ _ q => by rw [ew] at q; exact q))
            have M1 := nm_i (M1 := MS.s_cutLeft (MS.s_on (MS.s_cod M 1) false) (-1)) (b := 0) (Pc2 := fun sz => pC D dA [.ref mm, .int (xs (6 * n + 1)), .long ((((xs (6 * n + 2)).toInt64) <<< ((32 : Int32).toInt64 &&& 63)) ||| (((xs (6 * n + 3)).toInt64) &&& 4294967295)), .long ((((xs (6 * n + 4)).toInt64) <<< ((32 : Int32).toInt64 &&& 63)) ||| (((xs (6 * n + 5)).toInt64) &&& 4294967295))] (MW dA mm mad M) sz) (fun sz => k_append_5 l D dA sz mm mad M w ((((xs (6 * n + 2)).toInt64) <<< ((32 : Int32).toInt64 &&& 63)) ||| (((xs (6 * n + 3)).toInt64) &&& 4294967295)) ((((xs (6 * n + 4)).toInt64) <<< ((32 : Int32).toInt64 &&& 63)) ||| (((xs (6 * n + 5)).toInt64) &&& 4294967295)) on hw2 hsc y1 y2 z3 z4 hus hbk hjl (erm.trans hro) (by omega) (g5.trans v2) (g6.trans v3)) (fun r u q => ⟨q, rfl⟩) (fun _ _ _ q => by rw [ew] at q; exact q)
            exact l9_6_x l hC (k9 := 1) hi hL ⟨by omega, by omega, by omega, by omega⟩ ⟨by omega, by omega⟩ rfl k_n1 W1 M1 hP hD hS hl (fun u H1 locs1 ls1 hf hP hD hS hl => cont u _ _ _ (by rw [show u = _ from hf]; exact hr2) og H1 locs1 ls1 hP hD hS hl)

end CG
