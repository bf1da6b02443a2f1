/-! THE RELATION of the class and the reference, between two calls. -/
/-- tape, fault, disk's size, power -/
def rlT (m : MS) (x : VS) : Prop := (m.tape = x.tape ∧ m.length = x.tapeLength ∧ (∀ i, x.tpN ≤ i → x.tape i = 0) ∧ byteF x.tape) ∧ (x.tapeLength ≤ x.tpN ∧ 256 ≤ x.tpN ∧ x.tpN ≤ 65536) ∧ (m.faultCode = x.faultCode ∧ m.faultPlace = x.faultPlace) ∧ m.blocks = x.diskBlocks ∧ x.diskBlocks ≤ 256 ∧ m.on = x.powered
/-- the series' texts -/
def rlS (dA : Nat → ClassId) (SS : Nat → List LB) (m : MS) (x : VS) : Prop := txR m.texts m.textLengths m.seriesCount SS ∧ (∀ q, q < m.seriesCount → serG (SS q)) ∧ knOk dA x.kn x.nser x.pl SS ∧ byteF m.texts ∧ ∀ q, q < m.seriesCount → m.tOK q ∧ asc (joinT (SS q))
/-- sizes; n calls were made -/
def rlN (dA : Nat → ClassId) (PS : Nat → PT) (m : MS) (x : VS) (n : Nat) : Prop :=
  (x.nser ≤ 256 ∧ x.npc ≤ 32 ∧ x.nsc ≤ 64 ∧ psOk dA x.nP x.npc x.pl PS) ∧ (x.jlimit + 2 + (x.ncat + sumN x.npc (blN PS)) ≤ x.diskBlocks ∧ x.jfill ≤ 126 ∧ x.jblock < x.jlimit) ∧
  (x.jsize ≤ x.jN ∧ 0 < x.jN ∧ x.jN ≤ 4096 ∧ x.hsize ≤ x.hN ∧ 0 < x.hN ∧ x.hN ≤ 4096 ∧ 0 < x.gN ∧ x.gN ≤ 8192) ∧
  (16 * x.jsize + x.tapeLength ≤ 36 * n ∧ 16 * x.hsize + x.tapeLength ≤ 36 * n ∧ 16 * (cnt m.points m.pkd + cnt x.jsize (fun r => decide (x.jK r = 1))) + x.tapeLength ≤ 36 * n ∧ m.points ≤ cnt m.points m.pkd + cnt x.jsize (fun r => decide (x.jK r = 1))) ∧
  (x.writes ≤ 300 * n ∧ m.deletes ≤ 1300 * n ∧ m.parcelNumber ≤ n ∧ ∀ q, q < m.points → m.pointSeries q < 256) ∧ ∀ q, q < x.jsize → x.jU q ≤ 126 ∧ x.jB q < 65536 ∧ x.jO q < 256
/-- the questions' steps, the tables, the one that is shown -/
def rlA (dA : Nat → ClassId) (ad : Nat → Nat) (e0 : Nat) (m : MS) (x : VS) (gq : LI) (rq : va_W) (la : Nat → Nat) (gk : LI) (AT : Nat → Nat → Nat) (T : Nat → TB) : Prop :=
  (x.ll = LqW dA (ad 23) gq ++ rq ∧ stL e0 x.pl gq ∧ skP dA ad [] (VS.s_ll x rq) la gk AT T ∧ 0 < gk.sz) ∧ shOk (shp (VS.s_adep x 0, gk, AT, T)) ∧ ((∀ tb, tb < gk.sz → rsAll dA x.pl (T tb).rs) ∧ ∀ k, x.bO k < 256) ∧
  (m.isTable = x.hasTable ∧ (x.hasTable = true → ∃ NL RS, shwR m (T 0) NL RS ∧ tbK dA x.pl (T 0).wi (T 0) NL RS)) ∧ m.nmG ∧ ¬ x.nhor < 0
/-- what was used -/
def rlR (x : VS) (gk : LI) (T : Nat → TB) (n cs ss : Nat) : Prop := n ≤ 512 ∧ cs + 17 * x.tapeLength ≤ 2000 + 400 * n + 6 * x.jN + 3 * x.hN + 3 * x.gN + x.tpN ∧ ss + 70 * x.tapeLength ≤ 1177800 + 6000 * n + 12 * x.jN + 6 * x.hN + 6 * x.gN + 2 * x.tpN + (700 * gk.sz + 2 * sumN gk.sz (fun tb => (T tb).cN) + 4 * x.bN)
def Rl (dA : Nat → ClassId) (ad : Nat → Nat) (e0 n : Nat) (x : VS) (m : MS) (cs ss : Nat) : Prop := ∃ (PS : Nat → PT) (SS : Nat → List LB) (dn bn : Nat → Nat) (gq : LI) (rq : va_W) (la : Nat → Nat) (gk : LI) (AT : Nat → Nat → Nat) (T : Nat → TB), coR m x PS dn bn ∧ rlT m x ∧ rlS dA SS m x ∧ rlN dA PS m x n ∧ rlA dA ad e0 m x gq rq la gk AT T ∧ rlR x gk T n cs ss
section RL
variable {dA : Nat → ClassId} {ad : Nat → Nat} {e0 n : Nat} {x : VS} {m : MS} {cs ss cs' ss' : Nat}
theorem rlN_up {PS : Nat → PT} (h : rlN dA PS m x n) : rlN dA PS m x (n + 1) := by
  obtain ⟨h1, h2, h3, ⟨h4, h5, h6, h7⟩, ⟨h8, h9, h10, h11⟩, h12⟩ := h
  exact ⟨h1, h2, h3, ⟨by omega, by omega, by omega, h7⟩, ⟨by omega, by omega, by omega, h11⟩, h12⟩
/-- a call that changes nothing but the number of its fault -/
theorem rl_up (h : Rl dA ad e0 n x m cs ss) (hn : n + 1 ≤ 512) (cd : Int32) (hc : cs' ≤ cs + 100) (hs : ss' ≤ ss + 5000) : Rl dA ad e0 (n + 1) x (MS.s_cod m cd) cs' ss' := by
  obtain ⟨PS, SS, dn, bn, gq, rq, la, gk, AT, T, a1, a2, a3, a4, a5, a6, a7, a8⟩ := h
  exact ⟨PS, SS, dn, bn, gq, rq, la, gk, AT, T, a1, a2, a3, rlN_up a4, a5, hn, by omega, by omega⟩
theorem rl_skip (h : Rl dA ad e0 n x m cs ss) (hn : n + 1 ≤ 512) : Rl dA ad e0 (n + 1) x m cs ss := by
  obtain ⟨PS, SS, dn, bn, gq, rq, la, gk, AT, T, a1, a2, a3, a4, a5, a6, a7, a8⟩ := h
  exact ⟨PS, SS, dn, bn, gq, rq, la, gk, AT, T, a1, a2, a3, rlN_up a4, a5, hn, by omega, by omega⟩
theorem rl_room (h : Rl dA ad e0 n x m cs ss) : cs ≤ 601024 ∧ ss ≤ 7293034 := by
  obtain ⟨PS, SS, dn, bn, gq, rq, la, gk, AT, T, a1, a2, a3, a4, a5, a6, a7, a8⟩ := h
  obtain ⟨-, -, ⟨n1, n2, n3, n4, n5, n6, n7, n8⟩, -⟩ := a4
  obtain ⟨-, ⟨s1, s2, s3, s4, s5⟩, -⟩ := a5
  have t3 := a2.2.1.2.2
  have s2 : gk.sz ≤ 20 := s2
  have s5 : x.bN ≤ 32768 := s5
  have hs : sumN gk.sz (fun tb => (T tb).cN) ≤ 32768 * gk.sz := sum_le (fun k hk => by
    have := (s4 k hk).2
    rw [shp_c (a := (VS.s_adep x 0, gk, AT, T)) hk] at this
    exact this)
  omega
/-- the tape cut -/
theorem rl_end (h : Rl dA ad e0 n x m cs ss) (hn : n + 1 ≤ 512) {j : Nat} (hj : j ≤ x.tapeLength) : Rl dA ad e0 (n + 1) (VS.s_tapeLength x j) (MS.s_length (MS.s_cod m 0) j) cs ss := by
  obtain ⟨PS, SS, dn, bn, gq, rq, la, gk, AT, T, a1, ⟨⟨t1, t2, t3, t4⟩, ⟨t5, t6, t7⟩, t8⟩, a3, a4, a5, a6, a7, a8⟩ := h
  obtain ⟨n1, n2, n3, ⟨n4, n5, n6, n7⟩, ⟨n8, n9, n10, n11⟩, n12⟩ := a4
  refine ⟨PS, SS, dn, bn, gq, rq, la, gk, AT, T, a1, ⟨⟨t1, rfl, t3, t4⟩, ⟨Nat.le_trans hj t5, t6, t7⟩, t8⟩, a3, ⟨n1, n2, n3, ⟨?_, ?_, ?_, n7⟩, ⟨by show x.writes ≤ 300 * (n + 1); omega, by show m.deletes ≤ 1300 * (n + 1); omega, by show m.parcelNumber ≤ n + 1; omega, n11⟩, n12⟩, a5, hn, ?_, ?_⟩
  · show 16 * x.jsize + j ≤ _
    omega
  · show 16 * x.hsize + j ≤ _
    omega
  · show 16 * (cnt m.points m.pkd + cnt x.jsize (fun r => decide (x.jK r = 1))) + j ≤ _
    omega
  · show cs + 17 * j ≤ 2000 + 400 * (n + 1) + 6 * x.jN + 3 * x.hN + 3 * x.gN + x.tpN
    omega
  · show ss + 70 * j ≤ 1177800 + 6000 * (n + 1) + 12 * x.jN + 6 * x.hN + 6 * x.gN + 2 * x.tpN + (700 * gk.sz + 2 * sumN gk.sz (fun tb => (T tb).cN) + 4 * x.bN)
    omega
end RL
