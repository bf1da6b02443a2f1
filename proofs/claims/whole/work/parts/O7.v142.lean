/-! Matches and a call read: the two ways. -/
theorem isMk_k {a b : Int32} (h : kR a b) : isMk b = true ↔ (a = 61 ∨ 256 ≤ a) := by
  rcases h with ⟨h, e⟩ | ⟨h, e⟩ | ⟨h, e⟩ | ⟨h, e⟩ | ⟨h, e⟩ | ⟨h, e⟩ | ⟨h, e⟩ | ⟨h, e⟩
  · subst h; subst e; decide
  · subst h; subst e; decide
  · subst h; subst e; decide
  · subst h; subst e; decide
  · subst h; subst e; decide
  · subst h; subst e; decide
  · subst h; subst e; decide
  · subst e
    have h := sgOne_i.mpr h
    rcases h with h | h | h | h | h | h | h | h | h | h | h <;> subst h <;> decide
section ML
variable {f : Nat → Int32} {n : Nat}
theorem nd_y {y : MS} {k : Int32} (h : y.kind = k) : y.ndF k = y.nx := if_pos h
theorem nd_f {y : MS} {k : Int32} (h : ¬ y.kind = k) : y.ndF k = (false, y.flS 2 y.frm) := if_neg h
theorem mc1q_x {z : MS} (h : ¬ (z.kind = 61 ∨ 256 ≤ z.kind)) : z.mc1 = (false, z.flS 2 z.frm) := if_neg h
theorem mc1q_f {z : MS} (h : z.kind = 61 ∨ 256 ≤ z.kind) (h2 : z.nx.1 = false) : z.mc1 = (false, z.nx.2) := (if_pos h).trans (if_neg (by rw [h2]; decide))
theorem mc1q_t {z : MS} (h : z.kind = 61 ∨ 256 ≤ z.kind) (h2 : z.nx.1 = true) : z.mc1 = z.nx.2.ndF 3 := (if_pos h).trans (if_pos h2)
section RMS
variable {w k : Nat} {t t1 t2 t3 t4 : TKQ} {KD : Nat → Int32} {MN MT : Nat → List Int32}
theorem rm_k (h : ¬ t.1 = 258) : rmG f n (w + 1) t k KD MN MT = (false, rfT t 2 t.2.1, k, KD, MN, MT) := rm_1 (Nat.succ_pos w) h
theorem mk_t {z : Int32} (h : ¬ isMk z = false) : isMk z = true := by
  cases c : isMk z with
  | true => rfl
  | false => exact absurd c h
theorem rm_m (h : t.1 = 258) (e1 : t1 = nxT f n t) (h2 : isMk t1.1 = false) : rmG f n (w + 1) t k KD MN MT = (false, rfT t1 2 t1.2.1, k, KD, MN, MT) := by
  have r := rm_2 (f := f) (n := n) (w := w + 1) (k := k) (t := t) (KD := KD) (MN := MN) (MT := MT) (Nat.succ_pos w) h
  rw [← e1] at r
  exact r h2
theorem rm_t (h : t.1 = 258) (e1 : t1 = nxT f n t) (h2 : ¬ isMk t1.1 = false) (e2 : t2 = nxT f n t1) (h3 : ¬ t2.1 = 259) : rmG f n (w + 1) t k KD MN MT = (false, rfT t2 2 t2.2.1, k, KD, MN, MT) := by
  have r := rm_3 (f := f) (n := n) (w := w + 1) (k := k) (t := t) (KD := KD) (MN := MN) (MT := MT) (Nat.succ_pos w) h
  rw [← e1, ← e2] at r
  exact r (mk_t h2) h3
theorem rm_e (h : t.1 = 258) (e1 : t1 = nxT f n t) (h2 : ¬ isMk t1.1 = false) (e2 : t2 = nxT f n t1) (h3 : t2.1 = 259) (e3 : t3 = nxT f n t2) (h4 : ¬ t3.1 = 44) : rmG f n (w + 1) t k KD MN MT = (true, t3, k + 1, va_up KD k t1.1, va_up MN k (tkw f t), va_up MT k (tkx f t2)) := by
  have r := rm_4 (f := f) (n := n) (w := w + 1) (k := k) (t := t) (KD := KD) (MN := MN) (MT := MT) (Nat.succ_pos w) h
  rw [← e1, ← e2, ← e3] at r
  exact r (mk_t h2) h3 h4
theorem rm_s (h : t.1 = 258) (e1 : t1 = nxT f n t) (h2 : ¬ isMk t1.1 = false) (e2 : t2 = nxT f n t1) (h3 : t2.1 = 259) (e3 : t3 = nxT f n t2) (h4 : t3.1 = 44) (e4 : t4 = nxT f n t3) : rmG f n (w + 1) t k KD MN MT = rmG f n w t4 (k + 1) (va_up KD k t1.1) (va_up MN k (tkw f t)) (va_up MT k (tkx f t2)) := by
  have r := rm_5 (f := f) (n := n) (w := w + 1) (k := k) (t := t) (KD := KD) (MN := MN) (MT := MT) (Nat.succ_pos w) h
  rw [← e1, ← e2, ← e3, ← e4] at r
  exact r (mk_t h2) h3 h4
end RMS
theorem nx_p {y : MS} {t t1 : TKQ} (hf : y.tape = f) (hn : y.length = n) (hby : byteF f) (h : tkR y t) (hl : y.lx) (e : t1 = nxT f n t) : (∃ z, y.nx = (true, z) ∧ tkR z t1 ∧ z.lx ∧ z.tape = f ∧ z.length = n ∧ y.too ≤ z.frm ∧ (z.kind = 0 ∨ z.frm < z.too) ∧ z.isT ∧ t1.2.2.2.2.1 = 0) ∨ (∃ z, y.nx = (false, z) ∧ t1.1 = 263 ∧ ¬ t1.2.2.2.2.1 = 0 ∧ flR z t1) := by
  have N := nx_c hf hn hby h hl
  rw [← e] at N
  rcases N with ⟨a1, a2, a3, a4⟩ | ⟨a1, a2, a3, a4⟩
  · obtain ⟨-, i2, i3⟩ := nx_in hl a1
    have T := tk_nx y
    exact Or.inl ⟨y.nx.2, Prod.ext a1 rfl, a2, a3, (tk_f T MS.tape rfl).trans hf, (tk_f T MS.length rfl).trans hn, i2, i3, (nx_isT a1).1, a4⟩
  · exact Or.inr ⟨y.nx.2, Prod.ext a1 rfl, a2, a3, a4⟩
section MCA
variable {y z u : MS}
theorem mcA_x (h : ¬ y.kind = 2) : y.mcF = (false, y.flS 2 y.frm) := by
  have e : y.ndF 2 = (false, y.flS 2 y.frm) := nd_f h
  rw [mc_n (by rw [e]), e]
theorem mcA_1 (h : y.kind = 2) (e : y.nx = (false, z)) : y.mcF = (false, z) := by
  have e : y.ndF 2 = (false, z) := (nd_y h).trans e
  rw [mc_n (by rw [e]), e]
theorem mcA_2 (h : y.kind = 2) (e : y.nx = (true, z)) : y.mcF = z.mc1 := by
  have e : y.ndF 2 = (true, z) := (nd_y h).trans e
  exact mc_y (by rw [e]) (by rw [e])
theorem mcA_3 (h : z.kind = 61 ∨ 256 ≤ z.kind) (e : z.nx = (false, u)) : z.mc1 = (false, u) := by
  rw [mc1q_f h (by rw [e]), e]
theorem mcA_4 (h : z.kind = 61 ∨ 256 ≤ z.kind) (e : z.nx = (true, u)) : z.mc1 = u.ndF 3 := by
  rw [mc1q_t h (by rw [e]), e]
end MCA
/-- a match read -/
theorem mc_q {y : MS} {t t1 t2 t3 : TKQ} (hby : byteF f) (hf : y.tape = f) (hn : y.length = n) (h : tkR y t) (hl : y.lx) (e1 : t1 = nxT f n t) (e2 : t2 = nxT f n t1) (e3 : t3 = nxT f n t2) : (∃ (z : MS) (b : Bool) (r : TKQ), y.mcF = (false, z) ∧ flR z r ∧ ¬ r.2.2.2.2.1 = 0 ∧ (b = true → r.1 = 263) ∧ ∀ (w k : Nat) (KD : Nat → Int32) (MN MT : Nat → List Int32), (rmG f n (w + 1) t k KD MN MT).1 = b ∧ (rmG f n (w + 1) t k KD MN MT).2.1 = r) ∨ (∃ v : MS, y.mcF = (true, v) ∧ tkR v t3 ∧ v.lx ∧ v.tape = f ∧ v.length = n ∧ v.isT ∧ (v.kind = 0 ∨ v.frm < v.too) ∧ y.too ≤ v.frm ∧ t3.2.2.2.2.1 = 0 ∧ t.1 = 258 ∧ ¬ isMk t1.1 = false ∧ t2.1 = 259) := by
  by_cases k2 : y.kind = 2
  · have tk2 : t.1 = 258 := (kR_i h.1 kR_2).mp k2
    rcases nx_p hf hn hby h hl e1 with ⟨z, a1, a2, a3, a4, a5, a6, a7, a8, a9⟩ | ⟨z, a1, a2, a3, a4⟩
    · by_cases m2 : z.kind = 61 ∨ 256 ≤ z.kind
      · have b2 : ¬ isMk t1.1 = false := fun g => by
          rw [(isMk_k a2.1).mpr m2] at g
          cases g
        rcases nx_p a4 a5 hby a2 a3 e2 with ⟨u, b1, b3, b4, b5, b6, b7, b8, b9, b10⟩ | ⟨u, b1, b3, b4, b5⟩
        · by_cases k3 : u.kind = 3
          · have c2 : t2.1 = 259 := (kR_i b3.1 kR_3).mp k3
            have mc : y.mcF = u.nx := (mcA_2 k2 a1).trans ((mcA_4 m2 b1).trans (nd_y k3))
            rcases nx_p b5 b6 hby b3 b4 e3 with ⟨v, d1, d2, d3, d4, d5, d6, d7, d8, d9⟩ | ⟨v, d1, d2, d3, d4⟩
            · have q1 := a3.2.1
              have q2 := b4.2.1
              exact Or.inr ⟨v, mc.trans d1, d2, d3, d4, d5, d8, d7, by omega, d9, tk2, b2, c2⟩
            · refine Or.inl ⟨v, true, t3, mc.trans d1, d4, d3, fun _ => d2, fun w k KD MN MT => ?_⟩
              rw [rm_e tk2 e1 b2 e2 c2 e3 (by rw [d2]; decide)]
              exact ⟨rfl, rfl⟩
          · have c2 : ¬ t2.1 = 259 := fun g => k3 ((kR_i b3.1 kR_3).mpr g)
            have q := fl_q b3 2 (by decide)
            have nz := rfT_n (q := t2.2.1) b3.2.2.2.2.2.1 (show ¬ (2 : Int32) = 0 by decide)
            obtain ⟨-, q2, q3⟩ := q.2 nz
            refine Or.inl ⟨u.flS 2 u.frm, false, rfT t2 2 t2.2.1, (mcA_2 k2 a1).trans ((mcA_4 m2 b1).trans (nd_f k3)), q2, nz, fun e => Bool.noConfusion e, fun w k KD MN MT => ?_⟩
            rw [rm_t tk2 e1 b2 e2 c2]
            exact ⟨rfl, rfl⟩
        · refine Or.inl ⟨u, false, t2, (mcA_2 k2 a1).trans (mcA_3 m2 b1), b5, b4, fun e => Bool.noConfusion e, fun w k KD MN MT => ?_⟩
          rw [rm_t tk2 e1 b2 e2 (by rw [b3]; decide), rfT_1 b4]
          exact ⟨rfl, rfl⟩
      · have b2 : isMk t1.1 = false := by
          cases c : isMk t1.1 with
          | false => rfl
          | true => exact absurd ((isMk_k a2.1).mp c) m2
        have q := fl_q a2 2 (by decide)
        have nz := rfT_n (q := t1.2.1) a2.2.2.2.2.2.1 (show ¬ (2 : Int32) = 0 by decide)
        obtain ⟨-, q2, q3⟩ := q.2 nz
        refine Or.inl ⟨z.flS 2 z.frm, false, rfT t1 2 t1.2.1, (mcA_2 k2 a1).trans (mc1q_x m2), q2, nz, fun e => Bool.noConfusion e, fun w k KD MN MT => ?_⟩
        rw [rm_m tk2 e1 b2]
        exact ⟨rfl, rfl⟩
    · refine Or.inl ⟨z, false, t1, mcA_1 k2 a1, a4, a3, fun e => Bool.noConfusion e, fun w k KD MN MT => ?_⟩
      rw [rm_m tk2 e1 (by rw [a2]; decide), rfT_1 a3]
      exact ⟨rfl, rfl⟩
  · have tk2 : ¬ t.1 = 258 := fun g => k2 ((kR_i h.1 kR_2).mpr g)
    have q := fl_q h 2 (by decide)
    have nz := rfT_n (q := t.2.1) h.2.2.2.2.2.1 (show ¬ (2 : Int32) = 0 by decide)
    obtain ⟨-, q2, q3⟩ := q.2 nz
    refine Or.inl ⟨y.flS 2 y.frm, false, rfT t 2 t.2.1, mcA_x k2, q2, nz, fun e => Bool.noConfusion e, fun w k KD MN MT => ?_⟩
    rw [rm_k tk2]
    exact ⟨rfl, rfl⟩
theorem ml_q (hby : byteF f) {w : Nat} : ∀ {w2 : Nat} {y : MS} {t : TKQ} {k : Nat} {KD : Nat → Int32} {MN MT : Nat → List Int32}, y.tape = f → y.length = n → tkR y t → y.lx → (y.kind = 0 ∨ y.frm < y.too) → n + 1 ≤ w + t.2.1 → w ≤ w2 → qR (MS.mlF w2 y) (rmG f n w t k KD MN MT).1 (rmG f n w t k KD MN MT).2.1 := by
  induction w with
  | zero =>
    intro w2 y t k KD MN MT hf hn h hl hp hw hw2
    have := hl.2.1
    have := hl.2.2.1
    have := h.2.1
    omega
  | succ w ih =>
    intro w2 y t k KD MN MT hf hn h hl hp hw hw2
    have hp2 : 0 < w2 := by omega
    obtain ⟨t1, e1⟩ : ∃ t1, t1 = nxT f n t := ⟨_, rfl⟩
    obtain ⟨t2, e2⟩ : ∃ t2, t2 = nxT f n t1 := ⟨_, rfl⟩
    obtain ⟨t3, e3⟩ : ∃ t3, t3 = nxT f n t2 := ⟨_, rfl⟩
    obtain ⟨t4, e4⟩ : ∃ t4, t4 = nxT f n t3 := ⟨_, rfl⟩
    rcases mc_q hby hf hn h hl e1 e2 e3 with ⟨z, b, r, a1, a2, a3, a4, a5⟩ | ⟨v, a1, a2, a3, a4, a5, a6, a7, a8, a9, a10, a11, a12⟩
    · obtain ⟨c1, c2⟩ := a5 w k KD MN MT
      rw [c1, c2, ml_0 hp2 (by rw [a1]), a1]
      exact ⟨fun e => absurd e a3, fun _ => ⟨rfl, a2, a4⟩⟩
    · have mc1 : y.mcF.1 = true := by rw [a1]
      have mc2 : v = y.mcF.2 := by rw [a1]
      by_cases k4 : v.kind = 44
      · have q4 : t3.1 = 44 := (kR_i a2.1 (kR_s (by decide))).mp k4
        rw [rm_s a10 e1 a11 e2 a12 e3 q4 e4]
        rcases nx_p a4 a5 hby a2 a3 e4 with ⟨s, d1, d2, d3, d4, d5, d6, d7, d8, d9⟩ | ⟨s, d1, d2, d3, d4⟩
        · rw [ml_m hp2 mc1 mc2 k4 (by rw [d1]) (show s = v.nx.2 by rw [d1])]
          have x1 := h.2.1
          have x2 := d2.2.1
          have x3 := a3.2.1
          have x4 : y.frm < y.too := hp.resolve_left (fun g => by
            have : y.kind = 2 := (kR_i h.1 kR_2).mpr a10
            rw [this] at g
            exact absurd g (by decide))
          exact ih d4 d5 d2 d3 d7 (by omega) (by omega)
        · rw [ml_n hp2 mc1 mc2 k4 (by rw [d1]), d1]
          cases w with
          | zero => exact ⟨fun e => absurd e d3, fun _ => ⟨rfl, d4, fun e => by cases e⟩⟩
          | succ w =>
            rw [rm_k (show ¬ t4.1 = 258 by rw [d2]; decide), rfT_1 d3]
            exact ⟨fun e => absurd e d3, fun _ => ⟨rfl, d4, fun e => by cases e⟩⟩
      · have q4 : ¬ t3.1 = 44 := fun g => k4 ((kR_i a2.1 (kR_s (by decide))).mpr g)
        rw [rm_e a10 e1 a11 e2 a12 e3 q4, ml_e hp2 mc1 mc2 k4]
        exact ⟨fun _ => ⟨rfl, rfl, a2, a3⟩, fun e => absurd a9 e⟩
end ML
