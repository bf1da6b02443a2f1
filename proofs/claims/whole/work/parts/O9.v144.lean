/-! A function read: the two ways. -/
section CF
variable {f : Nat → Int32} {n wh : Nat} {y : MS} {t : TKQ}
theorem tlT_b {u : TKQ} (hc : ¬ u.2.2.2.2.1 = 0) (hb : u.1 = 263) : (tlT f n u).1 = false ∧ (tlT f n u).2.1 = u := by
  unfold tlT
  rw [tkT_b hb (by decide) hc]
  exact ⟨rfl, rfl⟩
/-- behind a fault before the call's parenthesis -/
theorem pfB_b {b : RN} (hc : ¬ b.2.1.2.2.2.2.1 = 0) (hb : b.1 = true → b.2.1.1 = 263) : (pfB f n t b).1 = false ∧ (pfB f n t b).2.1 = b.2.1 := by
  unfold pfB
  cases h : b.1 with
  | false => exact ⟨rfl, rfl⟩
  | true =>
    obtain ⟨e1, e2⟩ := tlT_b (f := f) (n := n) hc (hb h)
    rw [if_pos rfl]
    exact ⟨e1, e2⟩
theorem cl0_nm (y : MS) : y.nk y.cl0 ∧ y.nmO y.cl0 y.pile ∧ nmRe y.cl0 y.pile 0 (fun _ => []) := ⟨rfl, ⟨fun q hq => va_up_ne _ _ hq, fun q _ => ⟨rfl, rfl⟩⟩, va_up_self _ _ _, fun i hi => absurd hi (Nat.not_lt_zero i)⟩
theorem cl_q (hf : y.tape = f) (hn : y.length = n) (hby : byteF f) (h : tkR y t) (hl : y.lx) (hv : ¬ fnV (tkw f t) = -1) : qR (y.clF wh) (pFn f n t).1 (pFn f n t).2.1 ∧ ((pFn f n t).2.1.2.2.2.2.1 = 0 → ∃ (z : MS) (b : RN), b = fbT f n (nxT f n t) ∧ b.1 = true ∧ (∃ u : MS, u.tape = f ∧ u.length = n ∧ tkR u b.2.1 ∧ u.lx) ∧ y.nk z ∧ y.nmO z y.pile ∧ nmRe z y.pile b.2.2.1 b.2.2.2 ∧ b.2.2.1 ≤ 6 ∧ (pFn f n t).2.2 = [pfS f t b (tlT f n b.2.1)] ∧ (tlT f n b.2.1).1 = true ∧ (tlT f n b.2.1).2.1.2.2.2.2.1 = 0 ∧ y.clF wh = z.clZ wh (tkT f n b.2.1 40).2.2.2.1) := by
  rw [show pFn f n t = pfB f n t (fbT f n (nxT f n t)) from if_neg hv]
  obtain ⟨c1, c2, c3⟩ := cl0_nm y
  have h0 : tkR y.cl0 t := h
  have l0 : y.cl0.lx := hl
  rcases nx_c (y := y.cl0) hf hn hby h0 l0 with ⟨a1, a2, a3, a4⟩ | ⟨a1, a2, a3, a4⟩
  · have T := tk_nx y.cl0
    obtain ⟨x, ex⟩ : ∃ x, x = y.cl0.nx.2 := ⟨_, rfl⟩
    rw [← ex] at a2 a3 T
    have xf : x.tape = f := (tk_f T MS.tape rfl).trans hf
    have xn : x.length = n := (tk_f T MS.length rfl).trans hn
    have xp : x.pile = y.pile := tk_f T MS.pile rfl
    have k1 : y.nk x := nk_tr c1 (nk_of T)
    have k2 : y.nmO x y.pile := nmO_tr c2 (nmO_tk T)
    have k3 := nmRe_tk T c3
    have nb := nm_by (y := x) (t := nxT f n t) (by rw [xf]; exact hby) a2.2.1 a2.2.2.1 a3.2.1 a3.2.2.1
    rw [xf] at nb
    have e2 := kR_i a2.1 kR_2
    cases c : x.nmB 98 121 32 32 2 with
    | false =>
      have fb : fbT f n (nxT f n t) = (true, nxT f n t, 0, fun _ => []) := if_neg (fun z => by rw [nb.mpr ⟨e2.mpr z.1, z.2⟩] at c; cases c)
      rw [cl_n a1 ex c, fb]
      show qR (x.cl2 wh) (tlT f n (nxT f n t)).1 (tlT f n (nxT f n t)).2.1 ∧ ((tlT f n (nxT f n t)).2.1.2.2.2.2.1 = 0 → _)
      obtain ⟨s1, s2⟩ := cl2_q (wh := wh) xf xn hby a2 a3
      refine ⟨s1, fun g => ?_⟩
      obtain ⟨z, g1, g2⟩ := s2 g
      exact ⟨z, _, rfl, rfl, ⟨x, xf, xn, a2, a3⟩, nk_tr k1 (nk_of g1), nmO_tr k2 (nmO_tk g1), nmRe_tk g1 k3, Nat.zero_le _, rfl, (s1.1 g).1, g, g2⟩
    | true =>
      have nb' := nb.mp c
      have fb : fbT f n (nxT f n t) = byT f n (nxT f n (nxT f n t)) := if_pos ⟨e2.mp nb'.1, nb'.2⟩
      rw [fb]
      rcases nx_c xf xn hby a2 a3 with ⟨b1, b2, b3, b4⟩ | ⟨b1, b2, b3, b4⟩
      · have T2 := tk_nx x
        obtain ⟨x2, ex2⟩ : ∃ x2, x2 = x.nx.2 := ⟨_, rfl⟩
        rw [← ex2] at b2 b3 T2
        have xf2 : x2.tape = f := (tk_f T2 MS.tape rfl).trans xf
        have xn2 : x2.length = n := (tk_f T2 MS.length rfl).trans xn
        have q := nd_q (k := 40) (k' := 40) xf2 xn2 hby b2 b3 (kR_s (by decide))
        unfold byT
        obtain ⟨a, ea⟩ : ∃ a, a = tkT f n (nxT f n (nxT f n t)) 40 := ⟨_, rfl⟩
        rw [← ea] at q ⊢
        by_cases d : a.2.2.2.2.2.1 = 0
        · obtain ⟨d1, d2, d3, d4⟩ := q.1 d
          rw [if_pos d1]
          have T3 := tk_nd x2 40
          obtain ⟨x3, ex3⟩ : ∃ x3, x3 = (x2.ndF 40).2 := ⟨_, rfl⟩
          rw [← ex3] at d3 d4 T3
          have xf3 : x3.tape = f := (tk_f T3 MS.tape rfl).trans xf2
          have xn3 : x3.length = n := (tk_f T3 MS.length rfl).trans xn2
          have k4 := nmRe_tk T3 (nmRe_tk T2 k3)
          have bf := byF_2 b1 ex2 d2 ex3
          rw [xp] at bf
          obtain ⟨s1, s2⟩ := by_q (tb := y.pile) (w := 7) (k := 0) hby xf3 xn3 d3 d4 k4 (by omega) (by omega)
          obtain ⟨B, eB⟩ : ∃ B, B = byC f n (rnG f n 7 a.2 0 (fun _ => [])) := ⟨_, rfl⟩
          rw [show rnH f n a.2 = rnG f n 7 a.2 0 (fun _ => []) from rfl]
          rw [← eB] at s1 s2 ⊢
          by_cases g : B.2.1.2.2.2.2.1 = 0
          · obtain ⟨g1, g2, g3, g4⟩ := s1.1 g
            obtain ⟨g5, g6⟩ := s2 g
            have r := byL_in (t := y.pile) (w := 7) (y := x3) (v := (MS.byL y.pile 7 x3).2) d4 (fun k hk => by rw [k4.1] at hk; exact absurd hk (Nat.not_lt_zero k)) (by rw [k4.1]) (Prod.ext g2 rfl)
            obtain ⟨-, -, -, -, r5, r6⟩ := r
            rw [← bf] at g2 g3 g4 g5 r5 r6
            have zf : x.byF.2.tape = f := (nk_f r5 MS.tape rfl).trans xf3
            have zn : x.byF.2.length = n := (nk_f r5 MS.length rfl).trans xn3
            have nk3 : y.nk x3 := nk_tr k1 (nk_tr (nk_of T2) (nk_of T3))
            have no3 : y.nmO x3 y.pile := nmO_tr k2 (nmO_tr (nmO_tk T2) (nmO_tk T3))
            rw [cl_y a1 ex c g2 rfl, show pfB f n t B = ((tlT f n B.2.1).1, (tlT f n B.2.1).2.1, [pfS f t B (tlT f n B.2.1)]) from if_pos g1]
            obtain ⟨u1, u2⟩ := cl2_q (wh := wh) zf zn hby g3 g4
            refine ⟨u1, fun e => ?_⟩
            obtain ⟨z, v1, v2⟩ := u2 e
            exact ⟨z, B, rfl, g1, ⟨x.byF.2, zf, zn, g3, g4⟩, nk_tr nk3 (nk_tr r5 (nk_of v1)), nmO_tr no3 (nmO_tr r6 (nmO_tk v1)), nmRe_tk v1 g5, g6, rfl, (u1.1 e).1, e, v2⟩
          · obtain ⟨g1, g2, g3⟩ := s1.2 g
            rw [← bf] at g1 g2
            obtain ⟨p1, p2⟩ := pfB_b (f := f) (n := n) (t := t) g g3
            rw [cl_b a1 ex c g1, p1, p2]
            exact ⟨qR_b g g2, fun e => absurd e g⟩
        · obtain ⟨d1, d2, d3⟩ := q.2 d
          have bf := byF_1 b1 ex2 d1
          have eB : ∃ X, (if a.1 = true then byC f n (rnH f n a.2) else (false, a.2, 0, fun _ => [])) = ((false, a.2, X) : RN) := by
            cases hb : a.1 with
            | false => exact ⟨_, rfl⟩
            | true =>
              rw [if_pos rfl]
              unfold rnH
              rw [show rnG f n 7 a.2 0 (fun _ => []) = (false, rfT a.2 2 a.2.2.1, 0, fun _ => []) from if_pos (by rw [d3 hb]; decide), rfT_1 d]
              exact ⟨_, rfl⟩
          obtain ⟨X, eX⟩ := eB
          rw [eX]
          obtain ⟨p1, p2⟩ := pfB_b (f := f) (n := n) (t := t) (b := (false, a.2, X)) d (fun e => by cases e)
          rw [cl_b a1 ex c (by rw [bf]), p1, p2, bf]
          exact ⟨qR_b d d2, fun e => absurd e d⟩
      · have bf := byF_0 b1
        have eB : byT f n (nxT f n (nxT f n t)) = (false, nxT f n (nxT f n t), 0, fun _ => []) := by
          unfold byT
          rw [tkT_b b2 (by decide) b3]
          rfl
        rw [eB]
        obtain ⟨p1, p2⟩ := pfB_b (f := f) (n := n) (t := t) (b := (false, nxT f n (nxT f n t), 0, fun _ => [])) b3 (fun e => by cases e)
        rw [cl_b a1 ex c (by rw [bf]), p1, p2, bf]
        exact ⟨qR_b b3 b4, fun e => absurd e b3⟩
  · have fb : fbT f n (nxT f n t) = (true, nxT f n t, 0, fun _ => []) := if_neg (fun z => by rw [a2] at z; exact absurd z.1 (by decide))
    rw [fb, cl_0 a1]
    generalize nxT f n t = t1 at a2 a3 a4
    obtain ⟨p1, p2⟩ := pfB_b (f := f) (n := n) (t := t) (b := (true, t1, 0, fun _ => [])) a3 (fun _ => a2)
    rw [p1, p2]
    exact ⟨qR_b a3 a4, fun e => absurd e a3⟩
end CF
