/-! Matches and a call read: the two ways. -/
theorem isMk_k {a b : Int32} (h : kR a b) : isMk b = true ↔ (a = 61 ∨ 256 ≤ a) := by
  rcases h with ⟨h, e⟩ | ⟨h, e⟩ | ⟨h, e⟩ | ⟨h, e⟩ | ⟨h, e⟩ | ⟨h, e⟩ | ⟨h, e⟩ | ⟨h, e⟩
  · subst h; subst e; decide
  · subst h; subst e; decide
  · subst h; subst e; decide
  · subst h; subst e; decide
  · subst h; subst e; decide
  · subst h; subst e; decide
  · subst h; subst e; decide
  · subst e
    have h := sgOne_i.mpr h
    rcases h with h | h | h | h | h | h | h | h | h | h | h <;> subst h <;> decide
section ML
variable {f : Nat → Int32} {n : Nat}
theorem nd_y {y : MS} {k : Int32} (h : y.kind = k) : y.ndF k = y.nx := if_pos h
theorem nd_f {y : MS} {k : Int32} (h : ¬ y.kind = k) : y.ndF k = (false, y.flS 2 y.frm) := if_neg h
theorem mc1q_x {z : MS} (h : ¬ (z.kind = 61 ∨ 256 ≤ z.kind)) : z.mc1 = (false, z.flS 2 z.frm) := if_neg h
theorem mc1q_f {z : MS} (h : z.kind = 61 ∨ 256 ≤ z.kind) (h2 : z.nx.1 = false) : z.mc1 = (false, z.nx.2) := (if_pos h).trans (if_neg (by rw [h2]; decide))
theorem mc1q_t {z : MS} (h : z.kind = 61 ∨ 256 ≤ z.kind) (h2 : z.nx.1 = true) : z.mc1 = z.nx.2.ndF 3 := (if_pos h).trans (if_pos h2)
theorem ml_q (hby : byteF f) : ∀ {w w2 : Nat} {y : MS} {t : TKQ} {k : Nat} {KD : Nat → Int32} {MN MT : Nat → List Int32}, y.tape = f → y.length = n → tkR y t → y.lx → (y.kind = 0 ∨ y.frm < y.too) → n + 1 ≤ w + t.2.1 → w ≤ w2 → qR (MS.mlF w2 y) (rmG f n w t k KD MN MT).1 (rmG f n w t k KD MN MT).2.1
  | 0, w2, y, t, k, KD, MN, MT, hf, hn, h, hl, hp, hw, hw2 => by
    have := hl.2.1
    have := hl.2.2.1
    have := h.2.1
    omega
  | w + 1, w2, y, t, k, KD, MN, MT, hf, hn, h, hl, hp, hw, hw2 => by
    have hp2 : 0 < w2 := by omega
    by_cases k2 : y.kind = 2
    · have t2 : ¬ ¬ t.1 = 258 := fun g => g ((kR_i h.1 kR_2).mp k2)
      have hlt : y.frm < y.too := hp.resolve_left (by rw [k2]; decide)
      have mc0 : y.nx.1 = true → y.mcF = y.nx.2.mc1 := fun g => mc_y (by rw [nd_y k2]; exact g) (by rw [nd_y k2])
      rcases nx_c hf hn hby h hl with ⟨a1, a2, a3, a4⟩ | ⟨a1, a2, a3, a4⟩
      · obtain ⟨-, i2, i3⟩ := nx_in hl a1
        have mc := mc0 a1
        have T := tk_nx y
        generalize y.nx.2 = z at a2 a3 i2 i3 mc T
        have zf : z.tape = f := (tk_f T MS.tape rfl).trans hf
        have zn : z.length = n := (tk_f T MS.length rfl).trans hn
        by_cases m2 : z.kind = 61 ∨ 256 ≤ z.kind
        · have b2 : ¬ isMk (nxT f n t).1 = false := by rw [(isMk_k a2.1).mpr m2]; decide
          rcases nx_c zf zn hby a2 a3 with ⟨b1', b2', b3', b4'⟩ | ⟨b1', b2', b3', b4'⟩
          · obtain ⟨-, j2, j3⟩ := nx_in a3 b1'
            rw [mc1q_t m2 b1'] at mc
            have T2 := tk_nx z
            generalize z.nx.2 = u at b2' b3' j2 j3 mc T2
            have uf : u.tape = f := (tk_f T2 MS.tape rfl).trans zf
            have un : u.length = n := (tk_f T2 MS.length rfl).trans zn
            by_cases k3 : u.kind = 3
            · have c2 : ¬ ¬ (nxT f n (nxT f n t)).1 = 259 := fun g => g ((kR_i b2'.1 kR_3).mp k3)
              rw [nd_y k3] at mc
              rcases nx_c uf un hby b2' b3' with ⟨d1, d2, d3, d4⟩ | ⟨d1, d2, d3, d4⟩
              · obtain ⟨-, l2, l3⟩ := nx_in b3' d1
                have mc1 : y.mcF.1 = true := by rw [mc]; exact d1
                have mc2 : u.nx.2 = y.mcF.2 := by rw [mc]
                have T3 := tk_nx u
                generalize u.nx.2 = v at d2 d3 l2 l3 mc2 T3
                have vf : v.tape = f := (tk_f T3 MS.tape rfl).trans uf
                have vn : v.length = n := (tk_f T3 MS.length rfl).trans un
                by_cases k4 : v.kind = 44
                · have e2 : ¬ ¬ (nxT f n (nxT f n (nxT f n t))).1 = 44 := fun g => g ((kR_i d2.1 (kR_s (by decide))).mp k4)
                  have er : rmG f n (w + 1) t k KD MN MT = rmG f n w (nxT f n (nxT f n (nxT f n (nxT f n t)))) (k + 1) (va_up KD k (nxT f n t).1) (va_up MN k (tkw f t)) (va_up MT k (tkx f (nxT f n (nxT f n t)))) := (if_neg t2).trans ((if_neg b2).trans ((if_neg c2).trans (if_neg e2)))
                  rw [er]
                  rcases nx_c vf vn hby d2 d3 with ⟨g1, g2, g3, g4⟩ | ⟨g1, g2, g3, g4⟩
                  · obtain ⟨-, o2, o3⟩ := nx_in d3 g1
                    rw [ml_m hp2 mc1 mc2 k4 g1 rfl]
                    have q1 := g2.2.1
                    have q0 := h.2.1
                    have r1 := a3.2.1
                    have r2 := b3'.2.1
                    have r3 := d3.2.1
                    exact ml_q hby ((tk_f (tk_nx v) MS.tape rfl).trans vf) ((tk_f (tk_nx v) MS.length rfl).trans vn) g2 g3 o3 (by omega) (by omega)
                  · rw [ml_n hp2 mc1 mc2 k4 g1]
                    have e3 : (rmG f n w (nxT f n (nxT f n (nxT f n (nxT f n t)))) (k + 1) (va_up KD k (nxT f n t).1) (va_up MN k (tkw f t)) (va_up MT k (tkx f (nxT f n (nxT f n t))))).1 = false ∧ (rmG f n w (nxT f n (nxT f n (nxT f n (nxT f n t)))) (k + 1) (va_up KD k (nxT f n t).1) (va_up MN k (tkw f t)) (va_up MT k (tkx f (nxT f n (nxT f n t))))).2.1 = nxT f n (nxT f n (nxT f n (nxT f n t))) := by
                      cases w with
                      | zero => exact ⟨rfl, rfl⟩
                      | succ w =>
                        rw [show rmG f n (w + 1) (nxT f n (nxT f n (nxT f n (nxT f n t)))) (k + 1) (va_up KD k (nxT f n t).1) (va_up MN k (tkw f t)) (va_up MT k (tkx f (nxT f n (nxT f n t)))) = (false, rfT (nxT f n (nxT f n (nxT f n (nxT f n t)))) 2 (nxT f n (nxT f n (nxT f n (nxT f n t)))).2.1, k + 1, va_up KD k (nxT f n t).1, va_up MN k (tkw f t), va_up MT k (tkx f (nxT f n (nxT f n t)))) from if_pos (by rw [g2]; decide), rfT_1 g3]
                        exact ⟨rfl, rfl⟩
                    rw [e3.1, e3.2]
                    exact ⟨fun e => absurd e g3, fun _ => ⟨rfl, g4, fun e => by cases e⟩⟩
                · have e2 : ¬ (nxT f n (nxT f n (nxT f n t))).1 = 44 := fun g => k4 ((kR_i d2.1 (kR_s (by decide))).mpr g)
                  have er : rmG f n (w + 1) t k KD MN MT = (true, nxT f n (nxT f n (nxT f n t)), k + 1, va_up KD k (nxT f n t).1, va_up MN k (tkw f t), va_up MT k (tkx f (nxT f n (nxT f n t)))) := (if_neg t2).trans ((if_neg b2).trans ((if_neg c2).trans (if_pos e2)))
                  rw [ml_e hp2 mc1 mc2 k4, er]
                  exact ⟨fun _ => ⟨rfl, rfl, d2, d3⟩, fun e => absurd d4 e⟩
              · have mc1 : y.mcF.1 = false := by rw [mc]; exact d1
                have e2 : ¬ (nxT f n (nxT f n (nxT f n t))).1 = 44 := by rw [d2]; decide
                have er : rmG f n (w + 1) t k KD MN MT = (true, nxT f n (nxT f n (nxT f n t)), k + 1, va_up KD k (nxT f n t).1, va_up MN k (tkw f t), va_up MT k (tkx f (nxT f n (nxT f n t)))) := (if_neg t2).trans ((if_neg b2).trans ((if_neg c2).trans (if_pos e2)))
                rw [ml_0 hp2 mc1, er, mc]
                exact ⟨fun e => absurd e d3, fun _ => ⟨rfl, d4, fun _ => d2⟩⟩
            · have c2 : ¬ (nxT f n (nxT f n t)).1 = 259 := fun g => k3 ((kR_i b2'.1 kR_3).mpr g)
              rw [nd_f k3] at mc
              have er : rmG f n (w + 1) t k KD MN MT = (false, rfT (nxT f n (nxT f n t)) 2 (nxT f n (nxT f n t)).2.1, k, KD, MN, MT) := (if_neg t2).trans ((if_neg b2).trans (if_pos c2))
              rw [ml_0 hp2 (by rw [mc]), er, mc]
              exact fl_q b2' 2 (by decide)
          · rw [mc1q_f m2 b1'] at mc
            have er : rmG f n (w + 1) t k KD MN MT = (false, rfT (nxT f n (nxT f n t)) 2 (nxT f n (nxT f n t)).2.1, k, KD, MN, MT) := (if_neg t2).trans ((if_neg b2).trans (if_pos (by rw [b2']; decide)))
            rw [ml_0 hp2 (by rw [mc]), er, mc, rfT_1 b3']
            exact ⟨fun e => absurd e b3', fun _ => ⟨rfl, b4', fun e => by cases e⟩⟩
        · have b2 : isMk (nxT f n t).1 = false := by
            cases c : isMk (nxT f n t).1 with
            | false => rfl
            | true => exact absurd ((isMk_k a2.1).mp c) m2
          rw [mc1q_x m2] at mc
          have er : rmG f n (w + 1) t k KD MN MT = (false, rfT (nxT f n t) 2 (nxT f n t).2.1, k, KD, MN, MT) := (if_neg t2).trans (if_pos b2)
          rw [ml_0 hp2 (by rw [mc]), er, mc]
          exact fl_q a2 2 (by decide)
      · have mc : y.mcF = (false, y.nx.2) := by rw [mc_n (by rw [nd_y k2]; exact a1), nd_y k2]
        have er : rmG f n (w + 1) t k KD MN MT = (false, rfT (nxT f n t) 2 (nxT f n t).2.1, k, KD, MN, MT) := (if_neg t2).trans (if_pos (by rw [a2]; decide))
        rw [ml_0 hp2 (by rw [mc]), er, mc, rfT_1 a3]
        exact ⟨fun e => absurd e a3, fun _ => ⟨rfl, a4, fun e => by cases e⟩⟩
    · have t2 : ¬ t.1 = 258 := fun g => k2 ((kR_i h.1 kR_2).mpr g)
      have mc : y.mcF = (false, y.flS 2 y.frm) := by rw [mc_n (by rw [nd_f k2]), nd_f k2]
      rw [ml_0 hp2 (by rw [mc]), show rmG f n (w + 1) t k KD MN MT = (false, rfT t 2 t.2.1, k, KD, MN, MT) from if_pos t2, mc]
      exact fl_q h 2 (by decide)
end ML
