/-! A call read: the two ways. -/
/-- behind a call's parenthesis -/
def MS.clZ (z : MS) (wh p : Nat) : Bool × MS := if z.works = true then (z.rkS wh p).nx else z.nx
section CQ
variable {f : Nat → Int32} {n wh p : Nat}
theorem cl5_q {z : MS} {t : TKQ} (hf : z.tape = f) (hn : z.length = n) (hby : byteF f) (h : tkR z t) (hl : z.lx) : qR (z.cl5 wh p) (tkT f n t 41).1 (tkT f n t 41).2 ∧ ((tkT f n t 41).2.2.2.2.2.1 = 0 → z.cl5 wh p = z.clZ wh p) := by
  by_cases k : z.kind = 41
  · have e : z.cl5 wh p = z.clZ wh p := if_pos k
    rw [show tkT f n t 41 = (true, nxT f n t) from if_pos ((kR_i h.1 (kR_s (by decide))).mp k)]
    refine ⟨?_, fun _ => e⟩
    rw [e]
    unfold MS.clZ
    split
    · have hf2 : (z.rkS wh p).tape = f := hf
      have hn2 : (z.rkS wh p).length = n := hn
      have h2 : tkR (z.rkS wh p) t := h
      have hl2 : (z.rkS wh p).lx := hl
      exact nx_qq hf2 hn2 hby h2 hl2
    · exact nx_qq hf hn hby h hl
  · rw [c5_x k, show tkT f n t 41 = (false, rfT t 2 t.2.1) from if_neg (fun e => k ((kR_i h.1 (kR_s (by decide))).mpr e))]
    exact ⟨fl_q h 2 (by decide), fun e => absurd e (rfT_n h.2.2.2.2.2.1 (by decide))⟩
theorem qR_b {y : MS} {u : TKQ} (h : ¬ u.2.2.2.2.1 = 0) (hf : flR y u) : qR (false, y) false u := ⟨fun e => absurd e h, fun _ => ⟨rfl, hf, fun e => by cases e⟩⟩
theorem tlD_b {u : TKQ} {b : Bool} {X : Nat × (Nat → Int32) × (Nat → List Int32) × (Nat → List Int32)} (hc : ¬ u.2.2.2.2.1 = 0) (hb : b = true → u.1 = 263) : tlD f n (b, u, X) = (false, u, X) := by
  cases b with
  | false => rfl
  | true =>
    show ((tkT f n u 41).1, (tkT f n u 41).2, X) = _
    rw [tkT_b (hb rfl) (by decide) hc]
theorem tlC_b {u : TKQ} {b : Bool} {X : Nat × (Nat → Int32) × (Nat → List Int32) × (Nat → List Int32)} (hc : ¬ u.2.2.2.2.1 = 0) (hb : b = true → u.1 = 263) : tlC f n (b, u, X) = (false, u, X) := by
  cases b with
  | false => rfl
  | true =>
    show tlD f n ((tkT f n u 125).1, (tkT f n u 125).2, X) = _
    rw [tkT_b (hb rfl) (by decide) hc]
    rfl
theorem msT_b {u : TKQ} (hc : ¬ u.2.2.2.2.1 = 0) (hb : u.1 = 263) : ∃ X, msT f n u = (false, u, X) := by
  unfold msT
  rw [if_neg (by rw [hb]; decide)]
  cases n with
  | zero => exact ⟨_, rfl⟩
  | succ n =>
    rw [show rmG f (n + 1) (n + 1) u 0 (fun _ => 0) (fun _ => []) (fun _ => []) = (false, rfT u 2 u.2.1, 0, fun _ => 0, fun _ => [], fun _ => []) from if_pos (by rw [hb]; decide), rfT_1 hc]
    exact ⟨_, rfl⟩
theorem cl4_q {y : MS} {t : TKQ} {X : Nat × (Nat → Int32) × (Nat → List Int32) × (Nat → List Int32)} (hf : y.tape = f) (hn : y.length = n) (hby : byteF f) (h : tkR y t) (hl : y.lx) : qR (y.cl4 wh p) (tlC f n (true, t, X)).1 (tlC f n (true, t, X)).2.1 ∧ ((tlC f n (true, t, X)).2.1.2.2.2.2.1 = 0 → (tlC f n (true, t, X)).2.2 = X ∧ ∃ z, y.tk z ∧ y.cl4 wh p = z.clZ wh p) := by
  have q := nd_q (k := 125) (k' := 125) hf hn hby h hl (kR_s (by decide))
  have e0 : tlC f n (true, t, X) = tlD f n ((tkT f n t 125).1, (tkT f n t 125).2, X) := rfl
  rw [e0]
  obtain ⟨d, ed⟩ : ∃ d, d = tkT f n t 125 := ⟨_, rfl⟩
  rw [← ed] at q ⊢
  by_cases c : d.2.2.2.2.2.1 = 0
  · obtain ⟨b1, r1, tr, lz⟩ := q.1 c
    rw [show tlD f n (d.1, d.2, X) = ((tkT f n d.2 41).1, (tkT f n d.2 41).2, X) by rw [b1]; rfl, c4_1 r1 rfl]
    have T := tk_nd y 125
    obtain ⟨s1, s2⟩ := cl5_q (wh := wh) (p := p) ((tk_f T MS.tape rfl).trans hf) ((tk_f T MS.length rfl).trans hn) hby tr lz
    exact ⟨s1, fun g => ⟨rfl, _, T, s2 g⟩⟩
  · obtain ⟨r1, fl, b⟩ := q.2 c
    rw [c4_0 r1, tlD_b c b]
    exact ⟨qR_b c fl, fun e => absurd e c⟩
theorem cl2_q {y : MS} {t : TKQ} (hf : y.tape = f) (hn : y.length = n) (hby : byteF f) (h : tkR y t) (hl : y.lx) : qR (y.cl2 wh) (tlT f n t).1 (tlT f n t).2.1 ∧ ((tlT f n t).2.1.2.2.2.2.1 = 0 → ∃ z, y.tk z ∧ y.cl2 wh = z.clZ wh (tkT f n t 40).2.2.2.1) := by
  have q := nd_q (k := 40) (k' := 40) hf hn hby h hl (kR_s (by decide))
  unfold tlT
  obtain ⟨a, ea⟩ : ∃ a, a = tkT f n t 40 := ⟨_, rfl⟩
  rw [← ea] at q ⊢
  by_cases c : a.2.2.2.2.2.1 = 0
  · obtain ⟨b1, r1, tr, lz⟩ := q.1 c
    have A := nd_in hl r1
    have T := tk_nd y 40
    obtain ⟨z1, ez1⟩ : ∃ z1, z1 = (y.ndF 40).2 := ⟨_, rfl⟩
    rw [← ez1] at tr lz A T
    have zf : z1.tape = f := (tk_f T MS.tape rfl).trans hf
    have zn : z1.length = n := (tk_f T MS.length rfl).trans hn
    have q2 := nd_q (k := 123) (k' := 123) zf zn hby tr lz (kR_s (by decide))
    rw [if_pos b1]
    unfold tlB
    obtain ⟨b, eb⟩ : ∃ b, b = tkT f n a.2 123 := ⟨_, rfl⟩
    rw [← eb] at q2 ⊢
    by_cases c2 : b.2.2.2.2.2.1 = 0
    · obtain ⟨b2, r2, tr2, lz2⟩ := q2.1 c2
      have A2 := nd_in lz r2
      have T2 := tk_nd z1 123
      obtain ⟨u, eu⟩ : ∃ u, u = (z1.ndF 123).2 := ⟨_, rfl⟩
      rw [← eu] at tr2 lz2 A2 T2
      have uf : u.tape = f := (tk_f T2 MS.tape rfl).trans zf
      have un : u.length = n := (tk_f T2 MS.length rfl).trans zn
      rw [if_pos b2]
      have ep : a.2.2.2.1 = z1.too := tr.2.2.1.symm
      rw [ep]
      by_cases k : u.kind = 125
      · rw [c2_e r1 ez1 r2 eu k, show msT f n b.2 = (true, b.2, 0, fun _ => 0, fun _ => [], fun _ => []) from if_pos ((kR_i tr2.1 (kR_s (by decide))).mp k)]
        obtain ⟨s1, s2⟩ := cl4_q (wh := wh) (p := z1.too) (X := (0, fun _ => 0, fun _ => [], fun _ => [])) uf un hby tr2 lz2
        refine ⟨s1, fun g => ?_⟩
        obtain ⟨-, z, g1, g2⟩ := s2 g
        exact ⟨z, tk_tr T (tk_tr T2 g1), g2⟩
      · rw [c2_m r1 ez1 r2 eu k, show msT f n b.2 = rmG f n n b.2 0 (fun _ => 0) (fun _ => []) (fun _ => []) from if_neg (fun e => k ((kR_i tr2.1 (kR_s (by decide))).mpr e))]
        have st : 1 ≤ b.2.2.1 := by
          have w1 := tr2.2.1
          have w2 := A2.2.1
          have w3 := A.2.2.1.resolve_left (by rw [A2.2.2.2]; decide)
          omega
        have m1 := ml_q (k := 0) (KD := fun _ => 0) (MN := fun _ => []) (MT := fun _ => []) (w := n) (w2 := u.length + 1) hby uf un tr2 lz2 A2.2.2.1 (by omega) (by omega)
        have T3 := ml_tk (w := u.length + 1) (x := u)
        obtain ⟨r, er⟩ : ∃ r, r = rmG f n n b.2 0 (fun _ => 0) (fun _ => []) (fun _ => []) := ⟨_, rfl⟩
        rw [← er] at m1 ⊢
        obtain ⟨v, ev⟩ : ∃ v, v = MS.mlF (u.length + 1) u := ⟨_, rfl⟩
        rw [← ev] at m1 T3 ⊢
        obtain ⟨v1, v2⟩ := v
        obtain ⟨r1', r2', r3'⟩ := r
        by_cases c3 : r2'.2.2.2.2.1 = 0
        · obtain ⟨d1, d2, d3, d4⟩ := m1.1 c3
          have d1 : r1' = true := d1
          have d2 : v1 = true := d2
          subst d1
          subst d2
          rw [c3_t]
          obtain ⟨s1, s2⟩ := cl4_q (wh := wh) (p := z1.too) (X := r3') ((tk_f T3 MS.tape rfl).trans uf) ((tk_f T3 MS.length rfl).trans un) hby d3 d4
          refine ⟨s1, fun g => ?_⟩
          obtain ⟨-, z, g1, g2⟩ := s2 g
          exact ⟨z, tk_tr T (tk_tr T2 (tk_tr T3 g1)), g2⟩
        · obtain ⟨d1, d2, d3⟩ := m1.2 c3
          have d1 : v1 = false := d1
          subst d1
          rw [c3_f, tlC_b c3 d3]
          exact ⟨qR_b c3 d2, fun e => absurd e c3⟩
    · obtain ⟨d1, d2, d3⟩ := q2.2 c2
      rw [c2_1 r1 ez1 d1]
      cases hb : b.1 with
      | false => exact ⟨qR_b c2 d2, fun e => absurd e c2⟩
      | true =>
        obtain ⟨X, eX⟩ := msT_b (f := f) (n := n) c2 (d3 hb)
        rw [if_pos rfl, eX]
        exact ⟨qR_b c2 d2, fun e => absurd e c2⟩
  · obtain ⟨d1, d2, d3⟩ := q.2 c
    rw [c2_0 d1]
    cases hb : a.1 with
    | false => exact ⟨qR_b c d2, fun e => absurd e c⟩
    | true =>
      rw [if_pos rfl]
      unfold tlB
      rw [tkT_b (d3 hb) (by decide) c]
      exact ⟨qR_b c d2, fun e => absurd e c⟩
end CQ
