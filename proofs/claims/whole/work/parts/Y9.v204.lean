/-! A record, a point: the sizes; the call. -/
section WR
variable {dA : Nat → ClassId} {ad : Nat → Nat} {e0 n : Nat} {x : VS} {m M : MS} {cs ss : Nat} {SS : Nat → List LB} {gq : LI} {rq : va_W} {la : Nat → Nat} {gk : LI} {AT : Nat → Nat → Nat} {T : Nat → TB} {ja pa : Nat → Nat} {kd w k : Nat} {a b : Int64}
theorem wr_keep (h : rlT m x ∧ rlS dA SS m x ∧ rlA dA ad e0 m x gq rq la gk AT T) : rlT m (x.wrF ja kd w k a b) ∧ rlS dA SS m (x.wrF ja kd w k a b) ∧ rlA dA ad e0 m (x.wrF ja kd w k a b) gq rq la gk AT T := by
  unfold VS.wrF VS.wrB VS.wjS VS.jadF
  repeat' split
  all_goals exact h
theorem ha_keep (h : rlT m x ∧ rlS dA SS m x ∧ rlA dA ad e0 m x gq rq la gk AT T) : rlT m (VS.haF (VS.s_nlast x (va_up x.nlast w a)) pa w a b) ∧ rlS dA SS m (VS.haF (VS.s_nlast x (va_up x.nlast w a)) pa w a b) ∧ rlA dA ad e0 m (VS.haF (VS.s_nlast x (va_up x.nlast w a)) pa w a b) gq rq la gk AT T := by
  unfold VS.haF
  split
  · exact h
  · exact h
theorem wr_same (x : VS) (ja : Nat → Nat) (kd w k : Nat) (a b : Int64) : ((x.wrF ja kd w k a b).nser = x.nser ∧ (x.wrF ja kd w k a b).npc = x.npc ∧ (x.wrF ja kd w k a b).nsc = x.nsc ∧ (x.wrF ja kd w k a b).nP = x.nP ∧ (x.wrF ja kd w k a b).pl = x.pl ∧ (x.wrF ja kd w k a b).ncat = x.ncat ∧ (x.wrF ja kd w k a b).diskBlocks = x.diskBlocks ∧ (x.wrF ja kd w k a b).gN = x.gN ∧ (x.wrF ja kd w k a b).tapeLength = x.tapeLength ∧ (x.wrF ja kd w k a b).tpN = x.tpN ∧ (x.wrF ja kd w k a b).bN = x.bN ∧ (x.wrF ja kd w k a b).jlimit = x.jlimit) ∧ ((x.wrF ja kd w k a b).hsize = x.hsize ∧ (x.wrF ja kd w k a b).hN = x.hN) := by
  unfold VS.wrF VS.wrB VS.wjS VS.jadF
  repeat' split
  all_goals exact ⟨⟨rfl, rfl, rfl, rfl, rfl, rfl, rfl, rfl, rfl, rfl, rfl, rfl⟩, rfl, rfl⟩
theorem ha_same (x : VS) (pa : Nat → Nat) (w : Nat) (a b : Int64) : ((x.haF pa w a b).nser = x.nser ∧ (x.haF pa w a b).npc = x.npc ∧ (x.haF pa w a b).nsc = x.nsc ∧ (x.haF pa w a b).nP = x.nP ∧ (x.haF pa w a b).pl = x.pl ∧ (x.haF pa w a b).ncat = x.ncat ∧ (x.haF pa w a b).diskBlocks = x.diskBlocks ∧ (x.haF pa w a b).gN = x.gN ∧ (x.haF pa w a b).tapeLength = x.tapeLength ∧ (x.haF pa w a b).tpN = x.tpN ∧ (x.haF pa w a b).bN = x.bN ∧ (x.haF pa w a b).jlimit = x.jlimit) ∧ ((x.haF pa w a b).jsize = x.jsize ∧ (x.haF pa w a b).jN = x.jN ∧ (x.haF pa w a b).jfill = x.jfill ∧ (x.haF pa w a b).jblock = x.jblock ∧ (x.haF pa w a b).writes = x.writes ∧ (x.haF pa w a b).jK = x.jK ∧ (x.haF pa w a b).jU = x.jU ∧ (x.haF pa w a b).jB = x.jB ∧ (x.haF pa w a b).jO = x.jO) := by
  unfold VS.haF
  split
  · exact ⟨⟨rfl, rfl, rfl, rfl, rfl, rfl, rfl, rfl, rfl, rfl, rfl, rfl⟩, rfl, rfl, rfl, rfl, rfl, rfl, rfl, rfl, rfl⟩
  · exact ⟨⟨rfl, rfl, rfl, rfl, rfl, rfl, rfl, rfl, rfl, rfl, rfl, rfl⟩, rfl, rfl, rfl, rfl, rfl, rfl, rfl, rfl, rfl⟩
theorem wrB_u (x : VS) (n : Nat) : (x.wrB n).jU = x.jU ∧ (x.wrB n).jB = x.jB ∧ (x.wrB n).writes ≤ x.writes + 1 := by
  unfold VS.wrB VS.wjS
  repeat' split
  all_goals exact ⟨rfl, rfl, (by first | exact Nat.le_refl _ | exact Nat.le_succ _)⟩

theorem wr_F (x : VS) (ja : Nat → Nat) (kd w k : Nat) (a b : Int64) (h0 : x.jsize ≤ x.jN) (h1 : 0 < x.jN) (hb : x.jblock < x.jlimit) (hro : x.room k = true) (hk : k ≤ 126) : ((x.wrF ja kd w k a b).jsize = x.jsize + 1 ∧ (x.wrF ja kd w k a b).jN = x.jcap ∧ (x.wrF ja kd w k a b).jfill ≤ 126 ∧ (x.wrF ja kd w k a b).jblock < x.jlimit ∧ (x.wrF ja kd w k a b).writes ≤ x.writes + 1) ∧ (∀ q, q < x.jsize → (x.wrF ja kd w k a b).jK q = x.jK q ∧ (x.wrF ja kd w k a b).jU q = x.jU q ∧ (x.wrF ja kd w k a b).jB q = x.jB q ∧ (x.wrF ja kd w k a b).jO q = x.jO q) ∧ (x.wrF ja kd w k a b).jK x.jsize = kd ∧ (x.wrF ja kd w k a b).jU x.jsize = k ∧ (x.wrF ja kd w k a b).jB x.jsize < x.jlimit ∧ (x.wrF ja kd w k a b).jO x.jsize = w := by
  obtain ⟨k1, k2, k3, k4, k5, k6⟩ := wrB_k x k
  obtain ⟨u1, u2, u3⟩ := wrB_u x k
  obtain ⟨b1, b2, b3, b4, b5, b6, b7⟩ := wrB_b x k
  obtain ⟨-, -, r3⟩ := wr_j x k
  obtain ⟨p1, ⟨q1, q2, q3, q4, q5, q6⟩, p3, p4, p5, p6, p7, p8, p9, p10⟩ := jad_at (x.wrB k) ja kd w k a b (by rw [k5, k6]; exact h0) (by rw [k6]; exact h1)
  obtain ⟨-, -, -, -, -, -, a7, -⟩ := jadF_b (x.wrB k) ja kd w k a b
  rw [k5] at p1 q1 q2 q3 q4 p3
  have hro : x.jfill + k ≤ 126 ∨ x.jblock + 1 < x.jlimit := by
    unfold VS.room at hro
    rw [Bool.or_eq_true, decide_eq_true_eq, decide_eq_true_eq] at hro
    exact hro
  have hbl : (x.wrB k).jblock < x.jlimit ∧ (x.wrB k).jfill + k ≤ 126 := by
    by_cases c : x.jfill + k ≤ 126
    · have e : x.wrB k = x := if_pos c
      rw [e]
      exact ⟨hb, c⟩
    · rcases b7 with ⟨z1, z2, z3⟩ | ⟨z1, z2⟩
      · exact absurd z2 c
      · rw [z1, z2]
        exact ⟨by omega, by omega⟩
  refine ⟨⟨p3, a7.trans r3, ?_, ?_, ?_⟩, fun q hq => ?_, q1, q3, ?_, q2⟩
  · show ((x.wrB k).jadF ja kd w k a b).jfill ≤ 126
    rw [p6]
    exact hbl.2
  · show ((x.wrB k).jadF ja kd w k a b).jblock < x.jlimit
    rw [p5]
    exact hbl.1
  · show ((x.wrB k).jadF ja kd w k a b).writes ≤ x.writes + 1
    rw [p9]
    exact u3
  · obtain ⟨v1, v2, v3, v4, -, -⟩ := p1 q hq
    rw [k1] at v1
    rw [k2] at v2
    rw [u1] at v3
    rw [u2] at v4
    exact ⟨v1, v3, v4, v2⟩
  · show ((x.wrB k).jadF ja kd w k a b).jB x.jsize < x.jlimit
    rw [q4]
    exact hbl.1
/-- how many records of a kind -/
theorem cnt_kd {f g : Nat → Nat} {N kd : Nat} (h : ∀ q, q < N → g q = f q) (hN : g N = kd) : cnt (N + 1) (fun r => decide (g r = 1)) = cnt N (fun r => decide (f r = 1)) + (if kd = 1 then 1 else 0) := by
  have e : cnt N (fun r => decide (g r = 1)) = cnt N (fun r => decide (f r = 1)) := cnt_ext (fun q hq => by rw [h q hq])
  by_cases c : kd = 1
  · rw [cnt_t (by rw [hN, c]; rfl), e, if_pos c]
  · rw [cnt_f (by rw [hN]; exact decide_eq_false c), e, if_neg c, Nat.add_zero]
theorem rl_ap (h : Rl dA ad e0 n x M cs ss) (hn : n + 1 ≤ 512) (hw : w < x.nser) (hm : x.may w a = true) (hro : x.room 1 = true) (ja pa : Nat → Nat) (b : Int64) : Rl dA ad e0 (n + 1) (x.apF ja pa w a b) (((M.s_cod 0).recS 1 w a b 1).comS w a b) (cs + (6 * (x.jcap - x.jN) + 3 * (x.cmcap a - x.hN)) + 0 + 0) (ss + (12 * (x.jcap - x.jN) + 6 * (x.cmcap a - x.hN)) + 0 + 0) := by
  obtain ⟨PS, SS, dn, bn, gq, rq, la, gk, AT, T, a1, a2, a3, a4, a5, a6, a7, a8⟩ := h
  obtain ⟨⟨n1, n2, n3, n4⟩, ⟨n5, n6, n7⟩, ⟨n8, n9, n10, n11, n12, n13, n14, n15⟩, ⟨n16, n17, n18, n19⟩, ⟨n20, n21, n22, n23⟩, n24⟩ := a4
  have co' := ap_co (ja := ja) (pa := pa) (b := b) a1 hw hm ⟨n8, n9⟩ ⟨n11, n12⟩
  have ecm : x.cmcap a = x.hcap := if_neg (may_h hm)
  have hjc : x.jN ≤ x.jcap ∧ x.jsize + 1 ≤ x.jcap ∧ x.jcap ≤ 4096 := by
    unfold VS.jcap
    split <;> omega
  have hhc : x.hN ≤ x.hcap ∧ x.hsize + 1 ≤ x.hcap ∧ x.hcap ≤ 4096 := by
    unfold VS.hcap
    split <;> omega
  have hlm : x.jlimit ≤ 256 := by
    have := a2.2.2.2.2.1
    omega
  have wf := wr_F x ja 1 w 1 a b n8 n9 n7 hro (by decide)
  have ws := wr_same x ja 1 w 1 a b
  have kp := wr_keep (ja := ja) (kd := 1) (w := w) (k := 1) (a := a) (b := b) (And.intro a2 (And.intro a3 a5))
  obtain ⟨y, ey⟩ : ∃ y, y = x.wrF ja 1 w 1 a b := ⟨_, rfl⟩
  rw [← ey] at wf ws kp
  obtain ⟨⟨s1, s2, s3, s4, s5, s6, s7, s8, s9, s10, s11, s12⟩, s13, s14⟩ := ws
  have hnh : y.nhor = x.nhor := by rw [ey]; exact (wrF_h x ja 1 w 1 a b).2.2.1
  have ea : x.apF ja pa w a b = (VS.s_nlast y (va_up y.nlast w a)).haF pa w a b := by
    unfold VS.apF VS.cmF
    rw [← ey, if_neg (show ¬ a < y.nhor by rw [hnh]; exact may_h hm)]
  have kz := ha_keep (pa := pa) (w := w) (a := a) (b := b) kp
  obtain ⟨⟨h1, h2, h3, h4, h5, h6, h7, h8, h9, h10, h11, h12⟩, h13, h14, h15, h16, h17, h18, h19, h20, h21⟩ := ha_same (VS.s_nlast y (va_up y.nlast w a)) pa w a b
  obtain ⟨-, -, -, -, -, -, -, b8, b9⟩ := haF_b (VS.s_nlast y (va_up y.nlast w a)) pa w a b
  have b9 : ((VS.s_nlast y (va_up y.nlast w a)).haF pa w a b).hN = y.hcap := b9
  have ehc : y.hcap = x.hcap := by
    unfold VS.hcap
    rw [s13, s14]
  rw [ea] at co' ⊢
  obtain ⟨z, ez⟩ : ∃ z, z = (VS.s_nlast y (va_up y.nlast w a)).haF pa w a b := ⟨_, rfl⟩
  rw [← ez] at co' kz h1 h2 h3 h4 h5 h6 h7 h8 h9 h10 h11 h12 h13 h14 h15 h16 h17 h18 h19 h20 h21 b8 b9 ⊢
  have h1 : z.nser = y.nser := h1
  have h2 : z.npc = y.npc := h2
  have h3 : z.nsc = y.nsc := h3
  have h4 : z.nP = y.nP := h4
  have h5 : z.pl = y.pl := h5
  have h6 : z.ncat = y.ncat := h6
  have h7 : z.diskBlocks = y.diskBlocks := h7
  have h8 : z.gN = y.gN := h8
  have h9 : z.tapeLength = y.tapeLength := h9
  have h10 : z.tpN = y.tpN := h10
  have h11 : z.bN = y.bN := h11
  have h12 : z.jlimit = y.jlimit := h12
  have h13 : z.jsize = y.jsize := h13
  have h14 : z.jN = y.jN := h14
  have h15 : z.jfill = y.jfill := h15
  have h16 : z.jblock = y.jblock := h16
  have h17 : z.writes = y.writes := h17
  have h18 : z.jK = y.jK := h18
  have h19 : z.jU = y.jU := h19
  have h20 : z.jB = y.jB := h20
  have h21 : z.jO = y.jO := h21
  have b8 : z.hsize = y.hsize + 1 := b8
  obtain ⟨⟨f1, f2, f3, f4, f5⟩, f6, f7, f8, f9, f10⟩ := wf
  obtain ⟨M', eM⟩ : ∃ M', M' = ((M.s_cod 0).recS 1 w a b 1).comS w a b := ⟨_, rfl⟩
  have m1 : M'.points = M.points + 1 := by rw [eM]; rfl
  have m2 : M'.places = va_up M.places M.points (-1) := by rw [eM]; rfl
  have m3 : M'.deletes = M.deletes := by rw [eM]; rfl
  have m4 : M'.parcelNumber = M.parcelNumber := by rw [eM]; rfl
  have m5 : M'.pointSeries = va_up M.pointSeries M.points w := by rw [eM]; rfl
  have c1 : cnt M'.points M'.pkd = cnt M.points M.pkd := by
    rw [m1, cnt_f (by
      show (!decide (M'.places M.points < 0)) = false
      rw [m2, va_up_self]
      rfl)]
    exact cnt_ext (fun q hq => by
      show (!decide (M'.places q < 0)) = !decide (M.places q < 0)
      rw [m2, va_up_ne _ _ (by omega)])
  have c2 : cnt z.jsize (fun r => decide (z.jK r = 1)) = cnt x.jsize (fun r => decide (x.jK r = 1)) + 1 := by
    rw [h13, f1, h18]
    exact cnt_kd (fun q hq => (f6 q hq).1) f7
  have kz' : rlT M' z ∧ rlS dA SS M' z ∧ rlA dA ad e0 M' z gq rq la gk AT T := by rw [eM]; exact kz
  rw [← eM] at co' ⊢
  obtain ⟨kz1, kz2, kz3⟩ := kz'
  refine ⟨PS, SS, dn, bn, gq, rq, la, gk, AT, T, co', kz1, kz2, ⟨⟨by omega, by omega, by omega, ?_⟩, ⟨?_, by omega, by omega⟩, ⟨by omega, by omega, by omega, by omega, by omega, by omega, by omega, by omega⟩, ⟨by omega, by omega, by omega, by omega⟩, ⟨by omega, by omega, by omega, fun q hq => ?_⟩, fun q hq => ?_⟩, kz3, hn, by omega, by omega⟩
  · rw [h4, h2, h5, s4, s2, s5]
    exact n4
  · rw [h12, h6, h2, h7, s12, s6, s2, s7]
    exact n5
  · rw [m5]
    by_cases c : q = M.points
    · rw [c, va_up_self]
      omega
    · rw [va_up_ne _ _ c]
      exact n23 q (by omega)
  · rw [h19, h20, h21]
    by_cases c : q = x.jsize
    · rw [c, f8, f10]
      exact ⟨by decide, by omega, by omega⟩
    · obtain ⟨v1, v2, v3, v4⟩ := f6 q (by omega)
      rw [v2, v3, v4]
      exact n24 q (by omega)
end WR
