/-! Points go: the call. -/
theorem hO_lt {PS : Nat → PT} {x : VS} (hj : joR PS x) (hk : x.jkept ≤ x.jsize) {q : Nat} (hq : q < x.hsize) : x.hO q < x.nser := by
  obtain ⟨⟨i1, i2, i3, i4⟩, -, h⟩ := hj
  have h2 := (h x.jsize hk (Nat.le_refl _)).1 (x.hO q, x.hT q, x.hV q) (by
    rw [i3]
    unfold hdL lsF
    exact List.mem_map.mpr ⟨q, List.mem_range.mpr hq, rfl⟩)
  rw [i1] at h2
  exact h2.2.1
section WD
variable {dA : Nat → ClassId} {ad : Nat → Nat} {e0 n : Nat} {x y z : VS} {M : MS} {cs ss : Nat} {PS : Nat → PT} {SS : Nat → List LB} {dn bn : Nat → Nat} {gq : LI} {rq : va_W} {la : Nat → Nat} {gk : LI} {AT : Nat → Nat → Nat} {T : Nat → TB} {ja : Nat → Nat} {w : Nat} {a b : Int64}
theorem rl_de (a1 : coR M x PS dn bn) (a2 : rlT M x) (a3 : rlS dA SS M x) (a4 : rlN dA PS M x n) (a5 : rlA dA ad e0 M x gq rq la gk AT T) (ar : rlR x gk T n cs ss) (hn : n + 1 ≤ 512) (hw : w < x.nser) (hro : x.room 1 = true) (ey : y = x.wrF ja 2 w 1 a b) (hz : (sumN x.npc (x.soN PS w a b) = 0 ∧ z = y.dwS w a b) ∨ (0 < sumN x.npc (x.soN PS w a b) ∧ x.nsc < 64 ∧ z = y.lg1 w a b)) : Rl dA ad e0 (n + 1) z (((M.s_cod 0).recS 2 w a b 1).goS w a b) (cs + 6 * (x.jcap - x.jN) + 0 + 0) (ss + 12 * (x.jcap - x.jN) + 0 + 0) := by
  obtain ⟨a6, a7, a8⟩ := ar
  obtain ⟨⟨n1, n2, n3, n4⟩, ⟨n5, n6, n7⟩, ⟨n8, n9, n10, n11, n12, n13, n14, n15⟩, ⟨n16, n17, n18, n19⟩, ⟨n20, n21, n22, n23⟩, n24⟩ := a4
  have hz2 : (sumN x.npc (x.soN PS w a b) = 0 ∧ z = y.dwS w a b) ∨ (0 < sumN x.npc (x.soN PS w a b) ∧ z = (y.dwS w a b).asS w a b) := by
    rcases hz with ⟨u1, u2⟩ | ⟨u1, u2, u3⟩
    · exact Or.inl ⟨u1, u2⟩
    · exact Or.inr ⟨u1, u3⟩
  obtain ⟨dn', co'⟩ := de_co a1 hw ⟨n8, n9⟩ (by omega) ey hz2
  have hjc : x.jN ≤ x.jcap ∧ x.jsize + 1 ≤ x.jcap ∧ x.jcap ≤ 4096 := by
    unfold VS.jcap
    split <;> omega
  have hlm : x.jlimit ≤ 256 := by
    have := a2.2.2.2.2.1
    omega
  have wf := wr_F x ja 2 w 1 a b n8 n9 n7 hro (by decide)
  have ws := wr_same x ja 2 w 1 a b
  have kp := wr_keep (ja := ja) (kd := 2) (w := w) (k := 1) (a := a) (b := b) (And.intro a2 (And.intro a3 a5))
  rw [← ey] at wf ws kp
  obtain ⟨⟨s1, s2, s3, s4, s5, s6, s7, s8, s9, s10, s11, s12⟩, s13, s14⟩ := ws
  obtain ⟨⟨f1, f2, f3, f4, f5⟩, f6, f7, f8, f9, f10⟩ := wf
  have hzs : z.hsize ≤ y.hsize ∧ z.nsc ≤ 64 := by
    rcases hz with ⟨u1, u2⟩ | ⟨u1, u2, u3⟩
    · rw [u2]
      exact ⟨cnt_le _ _, by show y.nsc ≤ 64; omega⟩
    · rw [u3]
      exact ⟨cnt_le _ _, by show y.nsc + 1 ≤ 64; omega⟩
  have hzf : (z.nser = y.nser ∧ z.npc = y.npc ∧ z.nP = y.nP ∧ z.pl = y.pl ∧ z.ncat = y.ncat ∧ z.diskBlocks = y.diskBlocks ∧ z.gN = y.gN ∧ z.tapeLength = y.tapeLength ∧ z.tpN = y.tpN ∧ z.bN = y.bN ∧ z.jlimit = y.jlimit) ∧ (z.jsize = y.jsize ∧ z.jN = y.jN ∧ z.jfill = y.jfill ∧ z.jblock = y.jblock ∧ z.writes = y.writes ∧ z.jK = y.jK ∧ z.jU = y.jU ∧ z.jB = y.jB ∧ z.jO = y.jO) ∧ z.hN = y.hN := by
    rcases hz with ⟨u1, u2⟩ | ⟨u1, u2, u3⟩
    · rw [u2]
      exact ⟨⟨rfl, rfl, rfl, rfl, rfl, rfl, rfl, rfl, rfl, rfl, rfl⟩, ⟨rfl, rfl, rfl, rfl, rfl, rfl, rfl, rfl, rfl⟩, rfl⟩
    · rw [u3]
      exact ⟨⟨rfl, rfl, rfl, rfl, rfl, rfl, rfl, rfl, rfl, rfl, rfl⟩, ⟨rfl, rfl, rfl, rfl, rfl, rfl, rfl, rfl, rfl⟩, rfl⟩
  obtain ⟨M', eM⟩ : ∃ M', M' = ((M.s_cod 0).recS 2 w a b 1).goS w a b := ⟨_, rfl⟩
  have kz : rlT M' z ∧ rlS dA SS M' z ∧ rlA dA ad e0 M' z gq rq la gk AT T := by
    rcases hz with ⟨u1, u2⟩ | ⟨u1, u2, u3⟩
    · rw [u2, eM]
      exact kp
    · rw [u3, eM]
      exact kp
  obtain ⟨⟨h1, h2, h4, h5, h6, h7, h8, h9, h10, h11, h12⟩, ⟨h13, h14, h15, h16, h17, h18, h19, h20, h21⟩, h22⟩ := hzf
  have m1 : M'.points = M.points := by rw [eM]; rfl
  have m2 : M'.places = mapT M.points (M.hit w a b) M.gP M.places := by rw [eM]; rfl
  have m3 : M'.deletes = M.deletes + 1 := by rw [eM]; rfl
  have m4 : M'.parcelNumber = M.parcelNumber := by rw [eM]; rfl
  have m5 : M'.pointSeries = M.pointSeries := by rw [eM]; rfl
  have c1 : cnt M'.points M'.pkd = cnt M.points M.pkd := by
    rw [m1]
    exact cnt_ext (fun q hq => by
      show (!decide (M'.places q < 0)) = !decide (M.places q < 0)
      rw [m2, mapT_v hq]
      by_cases c : M.hit w a b q = true
      · rw [if_pos c]
        unfold MS.gP
        by_cases d : M.places q < 0
        · rw [if_pos d, decide_eq_true d]
          rfl
        · rw [if_neg d]
      · rw [if_neg c])
  have c2 : cnt z.jsize (fun r => decide (z.jK r = 1)) = cnt x.jsize (fun r => decide (x.jK r = 1)) + 0 := by
    rw [h13, f1, h18]
    exact cnt_kd (fun q hq => (f6 q hq).1) f7
  rw [← eM] at co' ⊢
  obtain ⟨kz1, kz2, kz3⟩ := kz
  refine ⟨PS, SS, dn', bn, gq, rq, la, gk, AT, T, co', kz1, kz2, ⟨⟨by omega, by omega, by omega, ?_⟩, ⟨?_, by omega, by omega⟩, ⟨by omega, by omega, by omega, by omega, by omega, by omega, by omega, by omega⟩, ⟨by omega, by omega, by omega, by omega⟩, ⟨by omega, by omega, by omega, fun q hq => ?_⟩, fun q hq => ?_⟩, kz3, hn, by omega, by omega⟩
  · rw [h4, h2, h5, s4, s2, s5]
    exact n4
  · rw [h12, h6, h2, h7, s12, s6, s2, s7]
    exact n5
  · rw [m5]
    exact n23 q (by omega)
  · rw [h19, h20, h21]
    by_cases c : q = x.jsize
    · rw [c, f8, f10]
      exact ⟨by decide, by omega, by omega⟩
    · obtain ⟨v1, v2, v3, v4⟩ := f6 q (by omega)
      rw [v2, v3, v4]
      exact n24 q (by omega)
end WD
section CH
variable {p : Program} {e : Env} {s : State} {m : MethodId} {below : List Frame} {meth : Method} {c : Code} {b L : Nat} {xs : Nat → Int32} {D : va_G} {dA : Nat → ClassId} {e0 : Nat} {A : Nat → Prop} {h : Nat} {ad : Nat → Nat} {mm : Nat} {mad : Nat → Nat} {o : Nat} {n : Nat} {x : VS} {M : MS} {cs ss : Nat}

theorem call_8 (l : Launch) (hC : lS p l s m meth c b L xs D dA e0 A) (hL : L ≤ 3072) (hi : 6 * n + 6 ≤ L) (hR : Rl dA ad e0 n x M cs ss) (cont : ∀ x' M' cs' ss', Rl dA ad e0 (n + 1) x' M' cs' ss' → At9 p l e s m below meth c b D dA A h ad mm mad o 23 (6 * n + 6) x' M' cs' ss') : At9 p l e s m below meth c b D dA A h ad mm mad o (tg9 8) (6 * n) x M cs ss := by
  intro og H locs ls hP hD hS hl
  obtain ⟨rm1, rm2⟩ := rl_room (rl_skip hR (by omega))
  obtain ⟨PS, SS, dn, bn, gq, rq, la, gk, AT, T, co, ⟨⟨t1, t2, t3, t4⟩, ⟨t5, t6, t7⟩, ⟨t8, t9⟩, t10, t11, t12⟩, ⟨sr1, sr2, sr3, sr4, sr5⟩, nr, ⟨⟨r1, r2, r3, r4⟩, r5, ⟨r6, r7⟩, ⟨r8, r9⟩, r10⟩, rr⟩ := id hR
  obtain ⟨cp, cb, ⟨se1, se2⟩, ⟨g1, g2, g3, g4, g5, g6, g7, g8, g9, g10, g11⟩, cj, ck, cc⟩ := id co
  obtain ⟨⟨n1, n2, n3, n4⟩, ⟨n5, n6, n7⟩, ⟨n8, n9, n10, n11, n12, n13, n14, n15⟩, ⟨n16, n17, n18, n19⟩, ⟨n20, n21, n22, n23⟩, n24⟩ := id nr
  cases hp : x.powered with
  | false =>
    have hr2 := rl_up (cs' := cs + 1 + 0 + 0) (ss' := ss + 6 + 0 + 0) hR (by omega) 1 (by omega) (by omega)
    obtain ⟨rn1, rn2⟩ := rl_room hr2
    have W1 := fun sz => k8_delete_1 l D dA sz h ad o og x (xs (6 * n + 1)) ((((xs (6 * n + 2)).toInt64) <<< ((32 : Int32).toInt64 &&& 63)) ||| (((xs (6 * n + 3)).toInt64) &&& 4294967295)) ((((xs (6 * n + 4)).toInt64) <<< ((32 : Int32).toInt64 &&& 63)) ||| (((xs (6 * n + 5)).toInt64) &&& 4294967295)) (fun u => u = x) _ _ _ _ (nf_x0 (fun sz => v_delete_1 l (lS_tr hC) D dA sz h ad x (xs (6 * n + 1)) ((((xs (6 * n + 2)).toInt64) <<< ((32 : Int32).toInt64 &&& 63)) ||| (((xs (6 * n + 3)).toInt64) &&& 4294967295)) ((((xs (6 * n + 4)).toInt64) <<< ((32 : Int32).toInt64 &&& 63)) ||| (((xs (6 * n + 5)).toInt64) &&& 4294967295)) hp) rfl (fun _ _ _ q => q))
    have M1 := fun sz => k_delete_1 l D dA sz mm mad M (xs (6 * n + 1)) ((((xs (6 * n + 2)).toInt64) <<< ((32 : Int32).toInt64 &&& 63)) ||| (((xs (6 * n + 3)).toInt64) &&& 4294967295)) ((((xs (6 * n + 4)).toInt64) <<< ((32 : Int32).toInt64 &&& 63)) ||| (((xs (6 * n + 5)).toInt64) &&& 4294967295)) (t12.trans hp)
    exact l9_8_x l hC (k9 := 1) hi hL ⟨by omega, by omega, by omega, by omega⟩ ⟨by omega, by omega⟩ rfl k_n1 W1 M1 hP hD hS hl (fun u H1 locs1 ls1 hf hP hD hS hl => cont u _ _ _ (by rw [show u = x from hf]; exact hr2) og H1 locs1 ls1 hP hD hS hl)
  | true =>
    have on : M.on = true := t12.trans hp
    by_cases hv : xs (6 * n + 1) < 0 ∨ nI x.nser ≤ xs (6 * n + 1)
    · have hr2 := rl_up (cs' := cs + 1 + 0 + 0) (ss' := ss + 6 + 0 + 0) hR (by omega) 2 (by omega) (by omega)
      obtain ⟨rn1, rn2⟩ := rl_room hr2
      have W1 := fun sz => k8_delete_2 l D dA sz h ad o og x (xs (6 * n + 1)) ((((xs (6 * n + 2)).toInt64) <<< ((32 : Int32).toInt64 &&& 63)) ||| (((xs (6 * n + 3)).toInt64) &&& 4294967295)) ((((xs (6 * n + 4)).toInt64) <<< ((32 : Int32).toInt64 &&& 63)) ||| (((xs (6 * n + 5)).toInt64) &&& 4294967295)) (fun u => u = x) _ _ _ _ (nf_x0 (fun sz => v_delete_2 l (lS_tr hC) D dA sz h ad x (xs (6 * n + 1)) ((((xs (6 * n + 2)).toInt64) <<< ((32 : Int32).toInt64 &&& 63)) ||| (((xs (6 * n + 3)).toInt64) &&& 4294967295)) ((((xs (6 * n + 4)).toInt64) <<< ((32 : Int32).toInt64 &&& 63)) ||| (((xs (6 * n + 5)).toInt64) &&& 4294967295)) hp hv) rfl (fun _ _ _ q => q))
      have M1 := fun sz => k_delete_2 l D dA sz mm mad M (xs (6 * n + 1)) ((((xs (6 * n + 2)).toInt64) <<< ((32 : Int32).toInt64 &&& 63)) ||| (((xs (6 * n + 3)).toInt64) &&& 4294967295)) ((((xs (6 * n + 4)).toInt64) <<< ((32 : Int32).toInt64 &&& 63)) ||| (((xs (6 * n + 5)).toInt64) &&& 4294967295)) on (by rw [se1]; exact hv)
      exact l9_8_x l hC (k9 := 2) hi hL ⟨by omega, by omega, by omega, by omega⟩ ⟨by omega, by omega⟩ rfl k_n2 W1 M1 hP hD hS hl (fun u H1 locs1 ls1 hf hP hD hS hl => cont u _ _ _ (by rw [show u = x from hf]; exact hr2) og H1 locs1 ls1 hP hD hS hl)
    · obtain ⟨w, hw, ew⟩ := i32_lt (a := x.nser) (by omega) (fun z => hv (Or.inl z)) (fun z => hv (Or.inr z))
      have hw2 : w < M.seriesCount := by omega
      have hsc : M.seriesCount ≤ 256 := by omega
      have hjl : M.journal ≤ 256 := by omega
      have hus : M.used ≤ 126 := by omega
      have hbk : M.block < 2 ^ 20 := by omega
      have hpt : M.points ≤ 12000 := by omega
      have hso : ∀ q : Nat, q < x.nsc → x.nsO q < 2 ^ 31 := fun q hq => by
        have := nsO_lt cj ck hq
        omega
      have hho : ∀ q : Nat, q < x.hsize → x.hO q < 2 ^ 31 := fun q hq => by
        have := hO_lt cj ck hq
        omega
      by_cases hab : ((((xs (6 * n + 4)).toInt64) <<< ((32 : Int32).toInt64 &&& 63)) ||| (((xs (6 * n + 5)).toInt64) &&& 4294967295)) < ((((xs (6 * n + 2)).toInt64) <<< ((32 : Int32).toInt64 &&& 63)) ||| (((xs (6 * n + 3)).toInt64) &&& 4294967295))
      · have hr2 := rl_up (cs' := cs + 1 + 0 + 0) (ss' := ss + 6 + 0 + 0) hR (by omega) 3 (by omega) (by omega)
        obtain ⟨rn1, rn2⟩ := rl_room hr2
        have W1 := fun sz => k8_delete_3 l D dA sz h ad o og x (xs (6 * n + 1)) ((((xs (6 * n + 2)).toInt64) <<< ((32 : Int32).toInt64 &&& 63)) ||| (((xs (6 * n + 3)).toInt64) &&& 4294967295)) ((((xs (6 * n + 4)).toInt64) <<< ((32 : Int32).toInt64 &&& 63)) ||| (((xs (6 * n + 5)).toInt64) &&& 4294967295)) (fun u => u = x) _ _ _ _ (nf_x0 (fun sz => v_delete_3 l (lS_tr hC) D dA sz h ad x w ((((xs (6 * n + 2)).toInt64) <<< ((32 : Int32).toInt64 &&& 63)) ||| (((xs (6 * n + 3)).toInt64) &&& 4294967295)) ((((xs (6 * n + 4)).toInt64) <<< ((32 : Int32).toInt64 &&& 63)) ||| (((xs (6 * n + 5)).toInt64) &&& 4294967295)) hp hw n1 hab) rfl (fun _ _ _ q => by rw [ew] at q; exact q))
        have M1 := nm_i (M1 := MS.s_cod M 3) (b := 0) (Pc2 := fun sz => pC D dA [.ref mm, .int (xs (6 * n + 1)), .long ((((xs (6 * n + 2)).toInt64) <<< ((32 : Int32).toInt64 &&& 63)) ||| (((xs (6 * n + 3)).toInt64) &&& 4294967295)), .long ((((xs (6 * n + 4)).toInt64) <<< ((32 : Int32).toInt64 &&& 63)) ||| (((xs (6 * n + 5)).toInt64) &&& 4294967295))] (MW dA mm mad M) sz) (fun sz => k_delete_3 l D dA sz mm mad M w ((((xs (6 * n + 2)).toInt64) <<< ((32 : Int32).toInt64 &&& 63)) ||| (((xs (6 * n + 3)).toInt64) &&& 4294967295)) ((((xs (6 * n + 4)).toInt64) <<< ((32 : Int32).toInt64 &&& 63)) ||| (((xs (6 * n + 5)).toInt64) &&& 4294967295)) on hw2 hsc hab) (fun r u q => ⟨q, rfl⟩) (fun _ _ _ q => by rw [ew] at q; exact q)
        exact l9_8_x l hC (k9 := 3) hi hL ⟨by omega, by omega, by omega, by omega⟩ ⟨by omega, by omega⟩ rfl k_n3 W1 M1 hP hD hS hl (fun u H1 locs1 ls1 hf hP hD hS hl => cont u _ _ _ (by rw [show u = x from hf]; exact hr2) og H1 locs1 ls1 hP hD hS hl)
      · have hab2 : ((((xs (6 * n + 2)).toInt64) <<< ((32 : Int32).toInt64 &&& 63)) ||| (((xs (6 * n + 3)).toInt64) &&& 4294967295)) ≤ ((((xs (6 * n + 4)).toInt64) <<< ((32 : Int32).toInt64 &&& 63)) ||| (((xs (6 * n + 5)).toInt64) &&& 4294967295)) := Int64.not_lt.mp hab
        have eb0 := btw_0 cp w ((((xs (6 * n + 2)).toInt64) <<< ((32 : Int32).toInt64 &&& 63)) ||| (((xs (6 * n + 3)).toInt64) &&& 4294967295)) ((((xs (6 * n + 4)).toInt64) <<< ((32 : Int32).toInt64 &&& 63)) ||| (((xs (6 * n + 5)).toInt64) &&& 4294967295))
        have eb1 := btw_1 cp w ((((xs (6 * n + 2)).toInt64) <<< ((32 : Int32).toInt64 &&& 63)) ||| (((xs (6 * n + 3)).toInt64) &&& 4294967295)) ((((xs (6 * n + 4)).toInt64) <<< ((32 : Int32).toInt64 &&& 63)) ||| (((xs (6 * n + 5)).toInt64) &&& 4294967295))
        have efo : cnt M.points M.firstOf = x.nsc := sc_cnt cp.2.1.1 cp.2.1.2.1 (by omega) cp.2.1.2.2.1
        have erm : M.room 1 = x.room 1 := room_eq ⟨g1, g2, g3, g4, g5, g6, g7, g8, g9, g10, g11⟩ 1
        have eht : cnt M.points (M.hit w ((((xs (6 * n + 2)).toInt64) <<< ((32 : Int32).toInt64 &&& 63)) ||| (((xs (6 * n + 3)).toInt64) &&& 4294967295)) ((((xs (6 * n + 4)).toInt64) <<< ((32 : Int32).toInt64 &&& 63)) ||| (((xs (6 * n + 5)).toInt64) &&& 4294967295))) = cnt M.points (M.btw w ((((xs (6 * n + 2)).toInt64) <<< ((32 : Int32).toInt64 &&& 63)) ||| (((xs (6 * n + 3)).toInt64) &&& 4294967295)) ((((xs (6 * n + 4)).toInt64) <<< ((32 : Int32).toInt64 &&& 63)) ||| (((xs (6 * n + 5)).toInt64) &&& 4294967295)) false) := cnt_ext (fun q _ => by
          rw [hit_bt]
          show M.bt w ((((xs (6 * n + 2)).toInt64) <<< ((32 : Int32).toInt64 &&& 63)) ||| (((xs (6 * n + 3)).toInt64) &&& 4294967295)) ((((xs (6 * n + 4)).toInt64) <<< ((32 : Int32).toInt64 &&& 63)) ||| (((xs (6 * n + 5)).toInt64) &&& 4294967295)) q = (M.bt w ((((xs (6 * n + 2)).toInt64) <<< ((32 : Int32).toInt64 &&& 63)) ||| (((xs (6 * n + 3)).toInt64) &&& 4294967295)) ((((xs (6 * n + 4)).toInt64) <<< ((32 : Int32).toInt64 &&& 63)) ||| (((xs (6 * n + 5)).toInt64) &&& 4294967295)) q && (!false || !decide (M.places q < 0)))
          rw [Bool.not_false, Bool.true_or, Bool.and_true])
        by_cases hz : sumN x.npc (x.soN PS w ((((xs (6 * n + 2)).toInt64) <<< ((32 : Int32).toInt64 &&& 63)) ||| (((xs (6 * n + 3)).toInt64) &&& 4294967295)) ((((xs (6 * n + 4)).toInt64) <<< ((32 : Int32).toInt64 &&& 63)) ||| (((xs (6 * n + 5)).toInt64) &&& 4294967295))) + cnt x.hsize (x.hW w ((((xs (6 * n + 2)).toInt64) <<< ((32 : Int32).toInt64 &&& 63)) ||| (((xs (6 * n + 3)).toInt64) &&& 4294967295)) ((((xs (6 * n + 4)).toInt64) <<< ((32 : Int32).toInt64 &&& 63)) ||| (((xs (6 * n + 5)).toInt64) &&& 4294967295))) = 0
        · have hr2 := rl_up (cs' := cs + 0 + 0 + 0) (ss' := ss + 0 + 0 + 0) hR (by omega) 0 (by omega) (by omega)
          have W1 := fun sz => k8_delete l D dA sz h ad o og x (xs (6 * n + 1)) ((((xs (6 * n + 2)).toInt64) <<< ((32 : Int32).toInt64 &&& 63)) ||| (((xs (6 * n + 3)).toInt64) &&& 4294967295)) ((((xs (6 * n + 4)).toInt64) <<< ((32 : Int32).toInt64 &&& 63)) ||| (((xs (6 * n + 5)).toInt64) &&& 4294967295)) 0 (fun u => u = x) _ _ _ _ (nf_i (fun sz => v_delete_0 l D dA sz h ad x PS w ((((xs (6 * n + 2)).toInt64) <<< ((32 : Int32).toInt64 &&& 63)) ||| (((xs (6 * n + 3)).toInt64) &&& 4294967295)) ((((xs (6 * n + 4)).toInt64) <<< ((32 : Int32).toInt64 &&& 63)) ||| (((xs (6 * n + 5)).toInt64) &&& 4294967295)) hp hw n1 hab2 n4 n2 n3 hso n11 (by omega) hho hz) (fun r u q => ⟨q, rfl⟩) (fun _ _ _ q => by rw [ew] at q; exact q))
          have M1 := nm_i (M1 := MS.s_cod M 0) (b := 0) (Pc2 := fun sz => pC D dA [.ref mm, .int (xs (6 * n + 1)), .long ((((xs (6 * n + 2)).toInt64) <<< ((32 : Int32).toInt64 &&& 63)) ||| (((xs (6 * n + 3)).toInt64) &&& 4294967295)), .long ((((xs (6 * n + 4)).toInt64) <<< ((32 : Int32).toInt64 &&& 63)) ||| (((xs (6 * n + 5)).toInt64) &&& 4294967295))] (MW dA mm mad M) sz) (fun sz => k_delete_n l D dA sz mm mad M w ((((xs (6 * n + 2)).toInt64) <<< ((32 : Int32).toInt64 &&& 63)) ||| (((xs (6 * n + 3)).toInt64) &&& 4294967295)) ((((xs (6 * n + 4)).toInt64) <<< ((32 : Int32).toInt64 &&& 63)) ||| (((xs (6 * n + 5)).toInt64) &&& 4294967295)) on hw2 hsc hab2 n23 hpt (eb0.trans hz)) (fun r u q => ⟨q, rfl⟩) (fun _ _ _ q => by rw [ew] at q; exact q)
          exact l9_8 l hC hi hL ⟨by omega, by omega, by omega, by omega⟩ ⟨by omega, by omega⟩ rfl rfl W1 M1 hP hD hS hl (fun u H1 locs1 ls1 hf hP hD hS hl => cont u _ _ _ (by rw [show u = x from hf]; exact hr2) _ H1 locs1 ls1 hP hD hS hl)
        · have hz0 : 0 < sumN x.npc (x.soN PS w ((((xs (6 * n + 2)).toInt64) <<< ((32 : Int32).toInt64 &&& 63)) ||| (((xs (6 * n + 3)).toInt64) &&& 4294967295)) ((((xs (6 * n + 4)).toInt64) <<< ((32 : Int32).toInt64 &&& 63)) ||| (((xs (6 * n + 5)).toInt64) &&& 4294967295))) + cnt x.hsize (x.hW w ((((xs (6 * n + 2)).toInt64) <<< ((32 : Int32).toInt64 &&& 63)) ||| (((xs (6 * n + 3)).toInt64) &&& 4294967295)) ((((xs (6 * n + 4)).toInt64) <<< ((32 : Int32).toInt64 &&& 63)) ||| (((xs (6 * n + 5)).toInt64) &&& 4294967295))) := Nat.pos_of_ne_zero hz
          have hzm : ¬ cnt M.points (M.btw w ((((xs (6 * n + 2)).toInt64) <<< ((32 : Int32).toInt64 &&& 63)) ||| (((xs (6 * n + 3)).toInt64) &&& 4294967295)) ((((xs (6 * n + 4)).toInt64) <<< ((32 : Int32).toInt64 &&& 63)) ||| (((xs (6 * n + 5)).toInt64) &&& 4294967295)) false) = 0 := by rw [eb0]; exact hz
          by_cases hu : (0 < sumN x.npc (x.soN PS w ((((xs (6 * n + 2)).toInt64) <<< ((32 : Int32).toInt64 &&& 63)) ||| (((xs (6 * n + 3)).toInt64) &&& 4294967295)) ((((xs (6 * n + 4)).toInt64) <<< ((32 : Int32).toInt64 &&& 63)) ||| (((xs (6 * n + 5)).toInt64) &&& 4294967295))) ∧ 64 ≤ x.nsc) ∨ x.room 1 = false
          · have hum : 0 < cnt M.points (M.btw w ((((xs (6 * n + 2)).toInt64) <<< ((32 : Int32).toInt64 &&& 63)) ||| (((xs (6 * n + 3)).toInt64) &&& 4294967295)) ((((xs (6 * n + 4)).toInt64) <<< ((32 : Int32).toInt64 &&& 63)) ||| (((xs (6 * n + 5)).toInt64) &&& 4294967295)) true) ∧ cnt M.points M.firstOf = 64 ∨ M.room 1 = false := by
              rw [eb1, efo, erm]
              rcases hu with ⟨u1, u2⟩ | u
              · exact Or.inl ⟨u1, by omega⟩
              · exact Or.inr u
            have hr2 := rl_up (cs' := cs + 1 + 0 + 0) (ss' := ss + 6 + 0 + 0) hR (by omega) 4 (by omega) (by omega)
            obtain ⟨rn1, rn2⟩ := rl_room hr2
            have W1 := fun sz => k8_delete_4 l D dA sz h ad o og x (xs (6 * n + 1)) ((((xs (6 * n + 2)).toInt64) <<< ((32 : Int32).toInt64 &&& 63)) ||| (((xs (6 * n + 3)).toInt64) &&& 4294967295)) ((((xs (6 * n + 4)).toInt64) <<< ((32 : Int32).toInt64 &&& 63)) ||| (((xs (6 * n + 5)).toInt64) &&& 4294967295)) (fun u => u = x) _ _ _ _ (nf_x0 (fun sz => v_delete_4 l (lS_tr hC) D dA sz h ad x PS w ((((xs (6 * n + 2)).toInt64) <<< ((32 : Int32).toInt64 &&& 63)) ||| (((xs (6 * n + 3)).toInt64) &&& 4294967295)) ((((xs (6 * n + 4)).toInt64) <<< ((32 : Int32).toInt64 &&& 63)) ||| (((xs (6 * n + 5)).toInt64) &&& 4294967295)) hp hw n1 hab2 n4 n2 n3 hso n11 (by omega) hho (by omega) (by omega) n6 hz0 hu) rfl (fun _ _ _ q => by rw [ew] at q; exact q))
            have M1 := nm_i (M1 := MS.s_cod M 4) (b := 0) (Pc2 := fun sz => pC D dA [.ref mm, .int (xs (6 * n + 1)), .long ((((xs (6 * n + 2)).toInt64) <<< ((32 : Int32).toInt64 &&& 63)) ||| (((xs (6 * n + 3)).toInt64) &&& 4294967295)), .long ((((xs (6 * n + 4)).toInt64) <<< ((32 : Int32).toInt64 &&& 63)) ||| (((xs (6 * n + 5)).toInt64) &&& 4294967295))] (MW dA mm mad M) sz) (fun sz => k_delete_4 l D dA sz mm mad M w ((((xs (6 * n + 2)).toInt64) <<< ((32 : Int32).toInt64 &&& 63)) ||| (((xs (6 * n + 3)).toInt64) &&& 4294967295)) ((((xs (6 * n + 4)).toInt64) <<< ((32 : Int32).toInt64 &&& 63)) ||| (((xs (6 * n + 5)).toInt64) &&& 4294967295)) on hw2 hsc hab2 n23 hpt hzm hus hbk hjl hum) (fun r u q => ⟨q, rfl⟩) (fun _ _ _ q => by rw [ew] at q; exact q)
            exact l9_8_x l hC (k9 := 4) hi hL ⟨by omega, by omega, by omega, by omega⟩ ⟨by omega, by omega⟩ rfl k_n4 W1 M1 hP hD hS hl (fun u H1 locs1 ls1 hf hP hD hS hl => cont u _ _ _ (by rw [show u = x from hf]; exact hr2) og H1 locs1 ls1 hP hD hS hl)
          · obtain ⟨u1, u2⟩ := not_or.mp hu
            have hro : x.room 1 = true := by
              cases e : x.room 1 with
              | true => rfl
              | false => exact absurd e u2
            have hsn : sumN x.npc (x.soN PS w ((((xs (6 * n + 2)).toInt64) <<< ((32 : Int32).toInt64 &&& 63)) ||| (((xs (6 * n + 3)).toInt64) &&& 4294967295)) ((((xs (6 * n + 4)).toInt64) <<< ((32 : Int32).toInt64 &&& 63)) ||| (((xs (6 * n + 5)).toInt64) &&& 4294967295))) = 0 ∨ x.nsc < 64 := by omega
            have hum : ¬ (0 < cnt M.points (M.btw w ((((xs (6 * n + 2)).toInt64) <<< ((32 : Int32).toInt64 &&& 63)) ||| (((xs (6 * n + 3)).toInt64) &&& 4294967295)) ((((xs (6 * n + 4)).toInt64) <<< ((32 : Int32).toInt64 &&& 63)) ||| (((xs (6 * n + 5)).toInt64) &&& 4294967295)) true) ∧ cnt M.points M.firstOf = 64) := by
              rw [eb1, efo]
              omega
            have rlt : rlT M x := ⟨⟨t1, t2, t3, t4⟩, ⟨t5, t6, t7⟩, ⟨t8, t9⟩, t10, t11, t12⟩
            have rls : rlS dA SS M x := ⟨sr1, sr2, sr3, sr4, sr5⟩
            have rla : rlA dA ad e0 M x gq rq la gk AT T := ⟨⟨r1, r2, r3, r4⟩, r5, ⟨r6, r7⟩, ⟨r8, r9⟩, r10⟩
            by_cases hcr : x.jfill + 1 ≤ 126 ∨ x.jch = false ∨ ¬ x.cutLeft = 0
            · have hcm : M.canR 1 := by
                unfold MS.canR
                rw [g4, g5, g6]
                exact hcr
              have M1 := nm_i (M1 := ((M.s_cod 0).recS 2 w ((((xs (6 * n + 2)).toInt64) <<< ((32 : Int32).toInt64 &&& 63)) ||| (((xs (6 * n + 3)).toInt64) &&& 4294967295)) ((((xs (6 * n + 4)).toInt64) <<< ((32 : Int32).toInt64 &&& 63)) ||| (((xs (6 * n + 5)).toInt64) &&& 4294967295)) 1).goS w ((((xs (6 * n + 2)).toInt64) <<< ((32 : Int32).toInt64 &&& 63)) ||| (((xs (6 * n + 3)).toInt64) &&& 4294967295)) ((((xs (6 * n + 4)).toInt64) <<< ((32 : Int32).toInt64 &&& 63)) ||| (((xs (6 * n + 5)).toInt64) &&& 4294967295))) (b := nI (cnt M.points (M.hit w ((((xs (6 * n + 2)).toInt64) <<< ((32 : Int32).toInt64 &&& 63)) ||| (((xs (6 * n + 3)).toInt64) &&& 4294967295)) ((((xs (6 * n + 4)).toInt64) <<< ((32 : Int32).toInt64 &&& 63)) ||| (((xs (6 * n + 5)).toInt64) &&& 4294967295))))) (Pc2 := fun sz => pC D dA [.ref mm, .int (xs (6 * n + 1)), .long ((((xs (6 * n + 2)).toInt64) <<< ((32 : Int32).toInt64 &&& 63)) ||| (((xs (6 * n + 3)).toInt64) &&& 4294967295)), .long ((((xs (6 * n + 4)).toInt64) <<< ((32 : Int32).toInt64 &&& 63)) ||| (((xs (6 * n + 5)).toInt64) &&& 4294967295))] (MW dA mm mad M) sz) (fun sz => k_delete_0 l D dA sz mm mad M w ((((xs (6 * n + 2)).toInt64) <<< ((32 : Int32).toInt64 &&& 63)) ||| (((xs (6 * n + 3)).toInt64) &&& 4294967295)) ((((xs (6 * n + 4)).toInt64) <<< ((32 : Int32).toInt64 &&& 63)) ||| (((xs (6 * n + 5)).toInt64) &&& 4294967295)) on hw2 hsc hab2 n23 hpt hzm hus hbk hjl hum (erm.trans hro) (by omega) hcm (by omega)) (fun r u q => ⟨q.1, q.2⟩) (fun _ _ _ q => by rw [ew] at q; exact q)
              have evl : (nI (sumN x.npc (x.soN PS w ((((xs (6 * n + 2)).toInt64) <<< ((32 : Int32).toInt64 &&& 63)) ||| (((xs (6 * n + 3)).toInt64) &&& 4294967295)) ((((xs (6 * n + 4)).toInt64) <<< ((32 : Int32).toInt64 &&& 63)) ||| (((xs (6 * n + 5)).toInt64) &&& 4294967295))) + cnt x.hsize (x.hW w ((((xs (6 * n + 2)).toInt64) <<< ((32 : Int32).toInt64 &&& 63)) ||| (((xs (6 * n + 3)).toInt64) &&& 4294967295)) ((((xs (6 * n + 4)).toInt64) <<< ((32 : Int32).toInt64 &&& 63)) ||| (((xs (6 * n + 5)).toInt64) &&& 4294967295))))).toInt64 = (nI (cnt M.points (M.hit w ((((xs (6 * n + 2)).toInt64) <<< ((32 : Int32).toInt64 &&& 63)) ||| (((xs (6 * n + 3)).toInt64) &&& 4294967295)) ((((xs (6 * n + 4)).toInt64) <<< ((32 : Int32).toInt64 &&& 63)) ||| (((xs (6 * n + 5)).toInt64) &&& 4294967295))))).toInt64 := by rw [eht, eb0]
              by_cases hs0 : sumN x.npc (x.soN PS w ((((xs (6 * n + 2)).toInt64) <<< ((32 : Int32).toInt64 &&& 63)) ||| (((xs (6 * n + 3)).toInt64) &&& 4294967295)) ((((xs (6 * n + 4)).toInt64) <<< ((32 : Int32).toInt64 &&& 63)) ||| (((xs (6 * n + 5)).toInt64) &&& 4294967295))) = 0
              · have hr2 := rl_de (ja := fun _ => 0) co rlt rls nr rla rr (by omega) hw hro rfl (Or.inl ⟨hs0, rfl⟩)
                obtain ⟨rn1, rn2⟩ := rl_room hr2
                have W1 := fun sz => k8_delete l D dA sz h ad o og x (xs (6 * n + 1)) ((((xs (6 * n + 2)).toInt64) <<< ((32 : Int32).toInt64 &&& 63)) ||| (((xs (6 * n + 3)).toInt64) &&& 4294967295)) ((((xs (6 * n + 4)).toInt64) <<< ((32 : Int32).toInt64 &&& 63)) ||| (((xs (6 * n + 5)).toInt64) &&& 4294967295)) (nI (sumN x.npc (x.soN PS w ((((xs (6 * n + 2)).toInt64) <<< ((32 : Int32).toInt64 &&& 63)) ||| (((xs (6 * n + 3)).toInt64) &&& 4294967295)) ((((xs (6 * n + 4)).toInt64) <<< ((32 : Int32).toInt64 &&& 63)) ||| (((xs (6 * n + 5)).toInt64) &&& 4294967295))) + cnt x.hsize (x.hW w ((((xs (6 * n + 2)).toInt64) <<< ((32 : Int32).toInt64 &&& 63)) ||| (((xs (6 * n + 3)).toInt64) &&& 4294967295)) ((((xs (6 * n + 4)).toInt64) <<< ((32 : Int32).toInt64 &&& 63)) ||| (((xs (6 * n + 5)).toInt64) &&& 4294967295))))) (fun u => ∃ ja : Nat → Nat, u = (x.wrF ja 2 w 1 ((((xs (6 * n + 2)).toInt64) <<< ((32 : Int32).toInt64 &&& 63)) ||| (((xs (6 * n + 3)).toInt64) &&& 4294967295)) ((((xs (6 * n + 4)).toInt64) <<< ((32 : Int32).toInt64 &&& 63)) ||| (((xs (6 * n + 5)).toInt64) &&& 4294967295))).dwS w ((((xs (6 * n + 2)).toInt64) <<< ((32 : Int32).toInt64 &&& 63)) ||| (((xs (6 * n + 3)).toInt64) &&& 4294967295)) ((((xs (6 * n + 4)).toInt64) <<< ((32 : Int32).toInt64 &&& 63)) ||| (((xs (6 * n + 5)).toInt64) &&& 4294967295))) _ _ _ _ (nf_i (fun sz => v_delete_60 l D dA sz h ad x PS w ((((xs (6 * n + 2)).toInt64) <<< ((32 : Int32).toInt64 &&& 63)) ||| (((xs (6 * n + 3)).toInt64) &&& 4294967295)) ((((xs (6 * n + 4)).toInt64) <<< ((32 : Int32).toInt64 &&& 63)) ||| (((xs (6 * n + 5)).toInt64) &&& 4294967295)) hp hw n1 hab2 n4 n2 n3 hso n11 (by omega) hho (by omega) (by omega) n6 n8 n9 (by omega) hz0 hs0 hro hcr) (fun r u q => q) (fun _ _ _ q => by rw [ew] at q; exact q))
                exact l9_8 l hC hi hL ⟨by omega, by omega, by omega, by omega⟩ ⟨by omega, by omega⟩ rfl evl W1 M1 hP hD hS hl (fun u H1 locs1 ls1 hf hP hD hS hl => by
                  obtain ⟨ja, eu⟩ := hf
                  exact cont u _ _ _ (rl_de (ja := ja) co rlt rls nr rla rr (by omega) hw hro rfl (Or.inl ⟨hs0, eu⟩)) _ H1 locs1 ls1 hP hD hS hl)
              · have hsp : 0 < sumN x.npc (x.soN PS w ((((xs (6 * n + 2)).toInt64) <<< ((32 : Int32).toInt64 &&& 63)) ||| (((xs (6 * n + 3)).toInt64) &&& 4294967295)) ((((xs (6 * n + 4)).toInt64) <<< ((32 : Int32).toInt64 &&& 63)) ||| (((xs (6 * n + 5)).toInt64) &&& 4294967295))) := Nat.pos_of_ne_zero hs0
                have hn64 : x.nsc < 64 := by omega
                have hr2 := rl_de (ja := fun _ => 0) co rlt rls nr rla rr (by omega) hw hro rfl (Or.inr ⟨hsp, hn64, rfl⟩)
                obtain ⟨rn1, rn2⟩ := rl_room hr2
                have W1 := fun sz => k8_delete l D dA sz h ad o og x (xs (6 * n + 1)) ((((xs (6 * n + 2)).toInt64) <<< ((32 : Int32).toInt64 &&& 63)) ||| (((xs (6 * n + 3)).toInt64) &&& 4294967295)) ((((xs (6 * n + 4)).toInt64) <<< ((32 : Int32).toInt64 &&& 63)) ||| (((xs (6 * n + 5)).toInt64) &&& 4294967295)) (nI (sumN x.npc (x.soN PS w ((((xs (6 * n + 2)).toInt64) <<< ((32 : Int32).toInt64 &&& 63)) ||| (((xs (6 * n + 3)).toInt64) &&& 4294967295)) ((((xs (6 * n + 4)).toInt64) <<< ((32 : Int32).toInt64 &&& 63)) ||| (((xs (6 * n + 5)).toInt64) &&& 4294967295))) + cnt x.hsize (x.hW w ((((xs (6 * n + 2)).toInt64) <<< ((32 : Int32).toInt64 &&& 63)) ||| (((xs (6 * n + 3)).toInt64) &&& 4294967295)) ((((xs (6 * n + 4)).toInt64) <<< ((32 : Int32).toInt64 &&& 63)) ||| (((xs (6 * n + 5)).toInt64) &&& 4294967295))))) (fun u => ∃ ja : Nat → Nat, u = (x.wrF ja 2 w 1 ((((xs (6 * n + 2)).toInt64) <<< ((32 : Int32).toInt64 &&& 63)) ||| (((xs (6 * n + 3)).toInt64) &&& 4294967295)) ((((xs (6 * n + 4)).toInt64) <<< ((32 : Int32).toInt64 &&& 63)) ||| (((xs (6 * n + 5)).toInt64) &&& 4294967295))).lg1 w ((((xs (6 * n + 2)).toInt64) <<< ((32 : Int32).toInt64 &&& 63)) ||| (((xs (6 * n + 3)).toInt64) &&& 4294967295)) ((((xs (6 * n + 4)).toInt64) <<< ((32 : Int32).toInt64 &&& 63)) ||| (((xs (6 * n + 5)).toInt64) &&& 4294967295))) _ _ _ _ (nf_i (fun sz => v_delete_61 l D dA sz h ad x PS w ((((xs (6 * n + 2)).toInt64) <<< ((32 : Int32).toInt64 &&& 63)) ||| (((xs (6 * n + 3)).toInt64) &&& 4294967295)) ((((xs (6 * n + 4)).toInt64) <<< ((32 : Int32).toInt64 &&& 63)) ||| (((xs (6 * n + 5)).toInt64) &&& 4294967295)) hp hw n1 hab2 n4 n2 n3 hso n11 (by omega) hho (by omega) (by omega) n6 n8 n9 (by omega) hz0 hsp hn64 hro hcr) (fun r u q => q) (fun _ _ _ q => by rw [ew] at q; exact q))
                exact l9_8 l hC hi hL ⟨by omega, by omega, by omega, by omega⟩ ⟨by omega, by omega⟩ rfl evl W1 M1 hP hD hS hl (fun u H1 locs1 ls1 hf hP hD hS hl => by
                  obtain ⟨ja, eu⟩ := hf
                  exact cont u _ _ _ (rl_de (ja := ja) co rlt rls nr rla rr (by omega) hw hro rfl (Or.inr ⟨hsp, hn64, eu⟩)) _ H1 locs1 ls1 hP hD hS hl)
            · obtain ⟨v1, v2⟩ := not_or.mp hcr
              obtain ⟨v2, v3⟩ := not_or.mp v2
              have v2 : x.jch = true := by
                cases e : x.jch with
                | true => rfl
                | false => exact absurd e v2
              have v3 : x.cutLeft = 0 := Decidable.not_not.mp v3
              have hr2 := rl_pw (cs' := cs + 1 + 0 + 0) (ss' := ss + 6 + 0 + 0) hR (by omega) 1 (by omega) (by omega)
              obtain ⟨rn1, rn2⟩ := rl_room hr2
              have W1 := fun sz => k8_delete_1 l D dA sz h ad o og x (xs (6 * n + 1)) ((((xs (6 * n + 2)).toInt64) <<< ((32 : Int32).toInt64 &&& 63)) ||| (((xs (6 * n + 3)).toInt64) &&& 4294967295)) ((((xs (6 * n + 4)).toInt64) <<< ((32 : Int32).toInt64 &&& 63)) ||| (((xs (6 * n + 5)).toInt64) &&& 4294967295)) (fun u => u = VS.s_cutLeft (VS.s_powered x false) (-1)) _ _ _ _ (nf_x0 (fun sz => v_delete_5 l (lS_tr hC) D dA sz h ad x PS w ((((xs (6 * n + 2)).toInt64) <<< ((32 : Int32).toInt64 &&& 63)) ||| (((xs (6 * n + 3)).toInt64) &&& 4294967295)) ((((xs (6 * n + 4)).toInt64) <<< ((32 : Int32).toInt64 &&& 63)) ||| (((xs (6 * n + 5)).toInt64) &&& 4294967295)) hp hw n1 hab2 n4 n2 n3 hso n11 (by omega) hho (by omega) (by omega) n6 hz0 hsn hro (by omega) v2 v3) rfl (fun _ _ _ q => by rw [ew] at q; exact q))
              have M1 := nm_i (M1 := MS.s_cutLeft (MS.s_on (MS.s_cod M 1) false) (-1)) (b := 0) (Pc2 := fun sz => pC D dA [.ref mm, .int (xs (6 * n + 1)), .long ((((xs (6 * n + 2)).toInt64) <<< ((32 : Int32).toInt64 &&& 63)) ||| (((xs (6 * n + 3)).toInt64) &&& 4294967295)), .long ((((xs (6 * n + 4)).toInt64) <<< ((32 : Int32).toInt64 &&& 63)) ||| (((xs (6 * n + 5)).toInt64) &&& 4294967295))] (MW dA mm mad M) sz) (fun sz => k_delete_5 l D dA sz mm mad M w ((((xs (6 * n + 2)).toInt64) <<< ((32 : Int32).toInt64 &&& 63)) ||| (((xs (6 * n + 3)).toInt64) &&& 4294967295)) ((((xs (6 * n + 4)).toInt64) <<< ((32 : Int32).toInt64 &&& 63)) ||| (((xs (6 * n + 5)).toInt64) &&& 4294967295)) on hw2 hsc hab2 n23 hpt hzm hus hbk hjl hum (erm.trans hro) (by omega) (g5.trans v2) (g6.trans v3)) (fun r u q => ⟨q, rfl⟩) (fun _ _ _ q => by rw [ew] at q; exact q)
              exact l9_8_x l hC (k9 := 1) hi hL ⟨by omega, by omega, by omega, by omega⟩ ⟨by omega, by omega⟩ rfl k_n1 W1 M1 hP hD hS hl (fun u H1 locs1 ls1 hf hP hD hS hl => cont u _ _ _ (by rw [show u = _ from hf]; exact hr2) og H1 locs1 ls1 hP hD hS hl)

end CH
