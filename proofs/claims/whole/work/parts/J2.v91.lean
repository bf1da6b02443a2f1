/-- only what answers is other -/
def VS.akS (x y : VS) : VS := VS.s_ll (VS.s_bO (VS.s_bT (VS.s_bN (VS.s_bA (VS.s_abf (VS.s_ahb (VS.s_aro (VS.s_adep x y.adep) y.aro) y.ahb) y.abf) y.bA) y.bN) y.bT) y.bO) y.ll
def VS.ak (x y : VS) : Prop := y = x.akS y
theorem ak_rf (x : VS) : x.ak x := rfl
theorem ak_t {x y z : VS} (h1 : x.ak y) (h2 : y.ak z) : x.ak z := by
  unfold VS.ak at *
  rw [h2, h1]
  rfl
theorem ak_f {x y : VS} (h : x.ak y) : y.pl = x.pl ∧ y.kn = x.kn ∧ y.nser = x.nser ∧ y.awi = x.awi ∧ y.afr = x.afr ∧ y.awd = x.awd ∧ y.nP = x.nP ∧ y.npc = x.npc ∧ y.nsc = x.nsc ∧ y.nsO = x.nsO ∧ y.hsize = x.hsize ∧ y.hN = x.hN ∧ y.hO = x.hO ∧ y.hT = x.hT := by
  have h : y = x.akS y := h
  exact ⟨(congrArg VS.pl h).trans (rfl : (x.akS y).pl = x.pl), (congrArg VS.kn h).trans (rfl : (x.akS y).kn = x.kn), (congrArg VS.nser h).trans (rfl : (x.akS y).nser = x.nser), (congrArg VS.awi h).trans (rfl : (x.akS y).awi = x.awi), (congrArg VS.afr h).trans (rfl : (x.akS y).afr = x.afr), (congrArg VS.awd h).trans (rfl : (x.akS y).awd = x.awd), (congrArg VS.nP h).trans (rfl : (x.akS y).nP = x.nP), (congrArg VS.npc h).trans (rfl : (x.akS y).npc = x.npc), (congrArg VS.nsc h).trans (rfl : (x.akS y).nsc = x.nsc), (congrArg VS.nsO h).trans (rfl : (x.akS y).nsO = x.nsO), (congrArg VS.hsize h).trans (rfl : (x.akS y).hsize = x.hsize), (congrArg VS.hN h).trans (rfl : (x.akS y).hN = x.hN), (congrArg VS.hO h).trans (rfl : (x.akS y).hO = x.hO), (congrArg VS.hT h).trans (rfl : (x.akS y).hT = x.hT)⟩
abbrev SKT : Type := VS × LI × (Nat → Nat → Nat) × (Nat → TB)
section WK
variable (dA : Nat → ClassId) (ad : Nat → Nat) (r : va_W) (la : Nat → Nat) (PS : Nat → PT) (SS : Nat → List LB) (nw : Nat)
def psQ (a m : SKT) : Prop := psR dA ad r la a.1 a.2.1 a.2.2.1 a.2.2.2 m.1 m.2.1 m.2.2.1 m.2.2.2
def skQ (a : SKT) : Prop := skP dA ad r a.1 la a.2.1 a.2.2.1 a.2.2.2
/-- the rest of a step: table d becomes t -/
def skU (m : SKT) (x : VS) (d : Nat) (t : TB) (b : SKT) : Prop := b.1 = VS.s_ll x b.1.ll ∧ b.2.1 = m.2.1 ∧ b.2.2.1 = m.2.2.1 ∧ b.2.2.2 = va_up m.2.2.2 d t ∧ skQ dA ad r la b
/-- what a step does -/
def wkS (s : SP1) (a b : SKT) : Prop :=
  (s.1 = 257 ∧ ∃ m : SKT, psQ dA ad r la a m ∧ skU dA ad r la m m.1 a.1.adep ((m.2.2.2 a.1.adep).num s.2.2.1 nw) b) ∨
  (s.1 = 264 ∧ ∃ (m : SKT) (W : va_W) (v9 : PKT), psQ dA ad r la a m ∧ pkF dA (m.2.2.2 a.1.adep) (VS.s_ll m.1 W) s.2.2.1 s.2.2.2.1 s.2.2.2.2.1 s.2.2.2.2.2.1 s.2.2.2.2.2.2.1 s.2.2.2.2.2.2.2.1 s.2.2.2.2.2.2.2.2 SS PS v9 ∧ skU dA ad r la m (pkY m.1 v9) a.1.adep v9.1 b) ∨
  (s.1 = 265 ∧ skU dA ad r la a a.1 (a.1.adep - 1) (TB.s_ce (a.2.2.2 (a.1.adep - 1)) (tnG (a.2.2.2 (a.1.adep - 1)).ce ((a.2.2.2 (a.1.adep - 1)).rc * (a.2.2.2 (a.1.adep - 1)).wi))) b) ∨
  (isOp s.1 ∧ ∃ (NL NR : Nat → List Int32) (RS RU : Nat → List LB) (wi : Nat), tbK dA a.1.pl wi (a.2.2.2 (a.1.adep - 2)) NL RS ∧ tbK dA a.1.pl wi (a.2.2.2 (a.1.adep - 1)) NR RU ∧ ¬ jnC NL NR (a.2.2.2 (a.1.adep - 2)) (a.2.2.2 (a.1.adep - 1)) = 3 ∧ jnZ dA ad r la s.1 NL NR RS RU a.1 a.2.1 a.2.2.1 a.2.2.2 b.1 b.2.1 b.2.2.1 b.2.2.2)
/-- what a step wants: c0 and s0 have been used, at most c1 and s1 are used behind it -/
def wkO (s : SP1) (c0 c1 s0 s1 : Nat) (a : SKT) : Prop :=
  (s.1 = 257 ∧ a.1.adep ≤ a.2.1.sz ∧ a.2.1.eN ≤ 2048 ∧ c0 + psC a.1 a.2.1 ≤ c1 ∧ s0 + psS a.1 a.2.1 ≤ s1 ∧ ∀ m : SKT, psQ dA ad r la a m → (m.2.2.2 a.1.adep).cN ≤ 65536 ∧ 64 ≤ (m.2.2.2 a.1.adep).cN) ∨
  (s.1 = 264 ∧ a.1.adep ≤ a.2.1.sz ∧ a.2.1.eN ≤ 2048 ∧ s.2.2.2.1 ≤ 6 ∧ isFn s.2.2.1.toInt32 ∧ c0 + psC a.1 a.2.1 + 3 ≤ c1 ∧ s0 + psS a.1 a.2.1 ≤ s1 ∧ ∀ m : SKT, psQ dA ad r la a m → (m.2.2.2 a.1.adep).cN ≤ 65536 ∧ rsAll dA m.1.pl (m.2.2.2 a.1.adep).rs ∧ m.1.bN ≤ 65536 ∧ (∀ k : Nat, m.1.bO k < 256) ∧ s0 + psS a.1 a.2.1 + pkS (pkG s.2.2.2.2.1 s.2.2.2.2.2.1 s.2.2.2.2.2.2.1 s.2.2.2.2.2.2.2.1 s.2.2.2.2.2.2.2.2 SS m.1.kn (TB.s_rc (TB.s_wi (TB.s_nc (m.2.2.2 a.1.adep) s.2.2.2.1) m.1.awi) 0, fun _ => [], m.1.aro, m.1.ahb) m.1.nser).1.rc m.1.awi (m.2.2.2 a.1.adep).cN m.1.bN ≤ s1) ∨
  (s.1 = 265 ∧ 1 ≤ a.1.adep ∧ a.1.adep ≤ a.2.1.sz ∧ (a.2.2.2 (a.1.adep - 1)).cN ≤ 65536 ∧ (a.2.2.2 (a.1.adep - 1)).rc * (a.2.2.2 (a.1.adep - 1)).wi ≤ (a.2.2.2 (a.1.adep - 1)).cN ∧ c0 ≤ c1 ∧ s0 ≤ s1) ∨
  (isOp s.1 ∧ 2 ≤ a.1.adep ∧ a.1.adep ≤ a.2.1.sz ∧ c0 ≤ c1 ∧ s0 ≤ s1 ∧ ∃ (NL NR : Nat → List Int32) (RS RU : Nat → List LB) (wi : Nat), tbK dA a.1.pl wi (a.2.2.2 (a.1.adep - 2)) NL RS ∧ tbK dA a.1.pl wi (a.2.2.2 (a.1.adep - 1)) NR RU ∧ ¬ jnC NL NR (a.2.2.2 (a.1.adep - 2)) (a.2.2.2 (a.1.adep - 1)) = 3)
/-- a step whose tables do not go together -/
def wkX (s : SP1) (a : SKT) : Prop := isOp s.1 ∧ 2 ≤ a.1.adep ∧ a.1.adep ≤ a.2.1.sz ∧ ∃ (NL NR : Nat → List Int32) (RS RU : Nat → List LB) (wi : Nat), tbK dA a.1.pl wi (a.2.2.2 (a.1.adep - 2)) NL RS ∧ tbK dA a.1.pl wi (a.2.2.2 (a.1.adep - 1)) NR RU ∧ jnC NL NR (a.2.2.2 (a.1.adep - 2)) (a.2.2.2 (a.1.adep - 1)) = 3
def wkR (S : List SP1) (a0 : SKT) : Nat → SKT → Prop
  | 0, a => a = a0
  | i + 1, a => ∃ b : SKT, wkR S a0 i b ∧ wkS dA ad r la PS SS nw (S.getD i (spO 0 0 0)) b a
end WK
section WK2
variable {dA : Nat → ClassId} {ad : Nat → Nat} {r : va_W} {la : Nat → Nat} {PS : Nat → PT} {SS : Nat → List LB} {nw : Nat}
theorem ll_k {x y : VS} (h : y = VS.s_ll x y.ll) : x.ak y := by
  obtain ⟨L, hL⟩ : ∃ L, L = y.ll := ⟨_, rfl⟩
  rw [← hL] at h
  subst h
  rfl
theorem ps_k {a m : SKT} (h : psQ dA ad r la a m) : a.1.ak m.1 := by
  obtain ⟨L, hL⟩ : ∃ L, L = m.1.ll := ⟨_, rfl⟩
  have h1 := h.1
  rw [← hL] at h1
  rw [h1]
  rfl
theorem pkY_k (x : VS) (v : PKT) : x.ak (pkY x v) := rfl
theorem jn_k {sg : Int32} {NL NR : Nat → List Int32} {RS RU : Nat → List LB} {a b : SKT} (h : jnZ dA ad r la sg NL NR RS RU a.1 a.2.1 a.2.2.1 a.2.2.2 b.1 b.2.1 b.2.2.1 b.2.2.2) : a.1.ak b.1 := by
  obtain ⟨L, hL⟩ : ∃ L, L = b.1.ll := ⟨_, rfl⟩
  have h1 := h.1
  rw [← hL] at h1
  rw [h1]
  rfl
theorem wkS_k {s : SP1} {a b : SKT} (h : wkS dA ad r la PS SS nw s a b) : a.1.ak b.1 ∧ skQ dA ad r la b := by
  rcases h with ⟨-, m, h1, h2⟩ | ⟨-, m, W, v9, h1, -, h2⟩ | ⟨-, h2⟩ | ⟨-, NL, NR, RS, RU, wi, -, -, -, h2⟩
  · exact ⟨ak_t (ps_k h1) (ll_k h2.1), h2.2.2.2.2⟩
  · exact ⟨ak_t (ps_k h1) (ak_t (pkY_k m.1 v9) (ll_k h2.1)), h2.2.2.2.2⟩
  · exact ⟨ll_k h2.1, h2.2.2.2.2⟩
  · exact ⟨jn_k h2, h2.2.1⟩
theorem wk_k {S : List SP1} {a0 : SKT} (h0 : skQ dA ad r la a0) : ∀ {i : Nat} {a : SKT}, wkR dA ad r la PS SS nw S a0 i a → a0.1.ak a.1 ∧ skQ dA ad r la a
  | 0, a, h => by
    rw [show a = a0 from h]
    exact ⟨ak_rf _, h0⟩
  | i + 1, a, h => by
    obtain ⟨b, h1, h2⟩ := h
    have k1 := wk_k h0 h1
    have k2 := wkS_k h2
    exact ⟨ak_t k1.1 k2.1, k2.2⟩
theorem lswJ {z : Int32} (h : isOp z) : Op.lookupswitch.offset [(257, 35), (264, 52), (265, 69)] 91 z.toInt = 91 := by
  rcases h with h | h | h | h | h <;> subst h <;> decide
end WK2
