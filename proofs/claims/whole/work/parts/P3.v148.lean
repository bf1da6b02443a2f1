/-! Terms and sums out of factors; the end of an operand. -/
theorem isTq_rk (z : Int32) : isTq z = true ↔ rkN z = 2 := by
  unfold isTq rkN
  rw [Bool.or_eq_true, Bool.or_eq_true, decide_eq_true_eq, decide_eq_true_eq, decide_eq_true_eq]
  by_cases h1 : z = 43 ∨ z = 45
  · rw [if_pos h1]
    constructor
    · intro h
      rcases h1 with e | e <;> subst e <;> revert h <;> decide
    · intro h; cases h
  · rw [if_neg h1]
    by_cases h2 : z = 42 ∨ z = 47 ∨ z = 37
    · rw [if_pos h2]
      exact ⟨fun _ => rfl, fun _ => h2⟩
    · rw [if_neg h2]
      constructor
      · intro h; exact absurd h h2
      · intro h; split at h <;> cases h
theorem isAd_rk (z : Int32) : isAd z = true ↔ rkN z = 1 := by
  unfold isAd rkN
  rw [Bool.or_eq_true, decide_eq_true_eq, decide_eq_true_eq]
  by_cases h1 : z = 43 ∨ z = 45
  · rw [if_pos h1]
    exact ⟨fun _ => rfl, fun _ => h1⟩
  · rw [if_neg h1]
    constructor
    · intro h; exact absurd h h1
    · intro h
      split at h
      · cases h
      · split at h <;> cases h
section SL
variable {x : MS} {J : List SP1 → MS → Prop} {Jf : List SP1 → SP1 → MS → Prop} {d rk : Nat} {F : PF} {Pk : Int32 → Bool}
theorem sub_L (hJ : JK x.tape x.length J Jf) (hby : byteF x.tape) (hg : gFq F) (hF : SubS x J Jf d F rk) (hr : 1 ≤ rk) (hr2 : rk ≤ 2) (hPk : ∀ z, Pk z = true ↔ rkN z = rk) : SubS x J Jf d (fun f n t => opL F Pk f n n (F f n t)) (rk - 1) := by
  intro L y t S q hh hc j
  obtain ⟨s1, s2⟩ := hF L y t S q (hdK_m hh (by omega)) hc j
  have gR := (hg x.tape x.length t).1 (gt_0 q.2.2.2.1.2.2.2.2.2.1)
  show SubG x J Jf L y S (rk - 1) (opL F Pk x.tape x.length x.length (F x.tape x.length t))
  have hP263 : Pk 263 = false := by
    cases q : Pk 263 with
    | false => rfl
    | true =>
      have := (hPk 263).mp q
      have q0 : rkN 263 = 0 := by decide
      omega
  generalize F x.tape x.length t = R at s1 s2 gR
  by_cases g : R.2.1.2.2.2.2.1 = 0
  · rcases s1 g with ⟨y2, S0, P, u1, u2, u3, u4, u5, u6, u7, u8⟩ | ⟨u0, v, u1, u2⟩
    · exact op_L hJ hby hg hF hr hr2 hPk hh hc u1 g u3 (fun a ha => ⟨(u4 a ha).1, by have := (u4 a ha).2; omega⟩) u2 (by omega) u5 u6 u7 u8
    · obtain ⟨X, eX⟩ := opL_x (F := F) (P := Pk) (f := x.tape) (n := x.length) (w := x.length) (r := R)
      refine ⟨fun _ => Or.inr ⟨u0, v, u1, ?_⟩, fun _ e => by rw [u0] at e; cases e⟩
      rw [eX, ← List.append_assoc]
      exact FF_m u2 X
  · rw [opL_b hP263 gR g]
    exact ⟨fun e => absurd e g, s2⟩
theorem sub_E (hJ : JK x.tape x.length J Jf) (hby : byteF x.tape) (hg : gFq F) (hF : SubS x J Jf d F 2) : SubS x J Jf d (pEx (pTm F)) 0 :=
  sub_L (rk := 1) (F := pTm F) (Pk := isAd) hJ hby (opF_g hg (by decide)) (sub_L (rk := 2) (Pk := isTq) hJ hby hg hF (by decide) (by decide) isTq_rk) (by decide) (by decide) isAd_rk
end SL
/-- the minuses on top, and what is below them -/
def topsM : List (Nat × Nat) → List (Nat × Nat)
  | [] => []
  | a :: S => if a.1 = 109 then a :: topsM S else []
def restM : List (Nat × Nat) → List (Nat × Nat)
  | [] => []
  | a :: S => if a.1 = 109 then restM S else a :: S
theorem tr_M : ∀ S, topsM S ++ restM S = S
  | [] => rfl
  | a :: S => by
    unfold topsM restM
    split
    · show a :: (topsM S ++ restM S) = _
      rw [tr_M S]
    · rfl
theorem tops_e : ∀ {S : List (Nat × Nat)} {a : Nat × Nat}, a ∈ topsM S → a.1 = 109
  | [], a, h => by cases h
  | b :: S, a, h => by
    unfold topsM at h
    split at h
    · rename_i g
      rcases List.mem_cons.mp h with e | e
      · rw [e]; exact g
      · exact tops_e e
    · cases h
theorem rest_h : ∀ {S : List (Nat × Nat)}, (∀ a, a ∈ S → isOpS a.1 = true ∨ binS a.1 = true) → (restM S = [] ∨ ∃ b S', restM S = b :: S' ∧ rkM b.1 < 3)
  | [], _ => Or.inl rfl
  | b :: S, h => by
    unfold restM
    split
    · exact rest_h (fun a ha => h a (List.mem_cons_of_mem _ ha))
    · rename_i g
      refine Or.inr ⟨b, S, rfl, ?_⟩
      rcases h b (List.mem_cons_self ..) with e | e
      · rcases opn_c e with e | e
        · exact absurd e g
        · rw [e]; decide
      · rcases (bin_c e).1 with e | e <;> omega
theorem st_el {s p : Nat → Nat} : ∀ {k : Nat} {a : Nat × Nat}, a ∈ stG s p k → ∃ i, i < k ∧ a.1 = s i
  | 0, a, h => by cases h
  | k + 1, a, h => by
    rcases List.mem_cons.mp h with e | e
    · exact ⟨k, Nat.lt_succ_self k, by rw [e]⟩
    · obtain ⟨i, h1, h2⟩ := st_el e
      exact ⟨i, by omega, h2⟩
theorem stk_el {y : MS} {e : Nat} (h : y.sI e) {a : Nat × Nat} (ha : a ∈ y.stk) : isOpS a.1 = true ∨ binS a.1 = true := by
  obtain ⟨i, h1, h2⟩ := st_el ha
  rw [h2]
  exact h.2.2.1 i h1
/-- a factor read -/
def FacG (x : MS) (J : List SP1 → MS → Prop) (Jf : List SP1 → SP1 → MS → Prop) (L : List SP1) (y : MS) (S : List (Nat × Nat)) (R : PR) : Prop :=
  (R.2.1.2.2.2.2.1 = 0 → (∃ y' : MS, R.1 = true ∧ y.QR = y'.QR ∧ y.frm < y'.frm ∧ x.qat y' R.2.1 false (restM S) ∧ J (L ++ (R.2.2 ++ (topsM S).map fls)) y') ∨ (x.works = true ∧ ∃ v, y.QR = (false, v) ∧ FFq Jf (L ++ (R.2.2 ++ (topsM S).map fls)) v)) ∧
  (¬ R.2.1.2.2.2.2.1 = 0 → x.works = false → ∃ v, y.QR = (false, v) ∧ flR v R.2.1)
def FacS (x : MS) (J : List SP1 → MS → Prop) (Jf : List SP1 → SP1 → MS → Prop) (d : Nat) : Prop := ∀ (L : List SP1) (y : MS) (t : TKQ) (S : List (Nat × Nat)), x.qat y t true S → cO S + d = 8 → J L y → FacG x J Jf L y S (pFd d x.tape x.length t)
section FE
variable {x : MS} {J : List SP1 → MS → Prop} {Jf : List SP1 → SP1 → MS → Prop} {d : Nat}
theorem hdK_t {S : List (Nat × Nat)} (h : hdK S 2) : topsM S = [] ∧ restM S = S := by
  rcases h with e | ⟨b, S', e, g⟩
  · subst e; exact ⟨rfl, rfl⟩
  · subst e
    have n : ¬ b.1 = 109 := fun c => by
      rw [c] at g
      revert g
      decide
    exact ⟨if_neg n, if_neg n⟩
theorem fac_sub (h : FacS x J Jf d) : SubS x J Jf d (pFd d) 2 := by
  intro L y t S q hh hc j
  obtain ⟨s1, s2⟩ := h L y t S q hc j
  obtain ⟨e1, e2⟩ := hdK_t hh
  rw [e1, e2, List.map_nil, List.append_nil] at s1
  refine ⟨fun g => ?_, s2⟩
  rcases s1 g with ⟨y', u1, u2, u3, u4, u5⟩ | u
  · exact Or.inl ⟨y', (pFd d x.tape x.length t).2.2, [], u1, fun k k1 k2 => by omega, (List.append_nil _).symm, (fun a ha => by cases ha), u2, u3, u4, u5⟩
  · exact Or.inr u
/-- behind an operand -/
theorem fac_end (hJ : JK x.tape x.length J Jf) {y m : MS} {u : TKQ} {S : List (Nat × Nat)} {L : List SP1} (hy : y.lI) (hw : ¬ y.kind = 0 ∨ y.wants = true) (qx : x.qk y) (q1e : y.q1 = m.dt 3) (hm : m.oI 1) (mw : m.wants = false) (mt : tkR m u) (ms : m.stk = S) (mx : m.works = x.works) (j : J L m) : (∃ y' : MS, y.QR = y'.QR ∧ y.frm < y'.frm ∧ x.qat y' u false (restM S) ∧ J (L ++ (topsM S).map fls) y') ∨ (x.works = true ∧ ∃ v, y.QR = (false, v) ∧ FFq Jf (L ++ (topsM S).map fls) v) := by
  have hS := rest_h (S := S) (fun a ha => stk_el hm.2.2.2.1 (by rw [ms]; exact ha))
  rcases dt_J hJ (rk := 3) (by decide) hS (oI_dI hm) (by rw [ms]; exact (tr_M S).symm) (fun a ha => by rw [tops_e ha]; decide) j with ⟨a1, a2, a3⟩ | ⟨a1, a2, a3⟩
  · obtain ⟨v, ev⟩ : ∃ v, v = (m.dt 3).2 := ⟨_, rfl⟩
    obtain ⟨t1, t2, t3⟩ := tkR_dt (by decide) hm (show m.dt 3 = (true, v) from Prod.ext a1 ev.symm) mt
    rw [← ev] at a2 a3
    obtain ⟨z1, z2, z3, z4⟩ := QR_t (v := v) hy hw (by rw [q1e]; exact a1) (by rw [q1e]; exact ev)
    exact Or.inl ⟨v, z1, z4, ⟨z2, qk_tr qx z3, (dk_f t3 MS.wants rfl).trans mw, t1, a3⟩, a2⟩
  · refine Or.inr ⟨mx.symm.trans a3, (m.dt 3).2, ?_, a2⟩
    rw [QR_f hy hw (by rw [q1e]; exact a1), q1e]
end FE
