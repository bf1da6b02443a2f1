abbrev VL0 : Type := Nat × Nat × (Nat → Int32) × Nat × Int32
abbrev VL1 : Type := Int32 × Nat × Bool × Int32 × Nat
abbrev VL2 : Type := Bool × (Nat → Nat) × Nat × (Nat → Nat) × (Nat → Nat)
abbrev VL3 : Type := (Nat → Nat) × (Nat → Nat) × (Nat → Int64) × (Nat → Int64) × Nat
abbrev VL4 : Type := Nat × Nat × Nat × Nat × Nat
abbrev VL5 : Type := Bool × (Nat → Nat) × Nat × (Nat → Nat) × (Nat → Int64)
abbrev VL6 : Type := (Nat → Int64) × Nat × (Nat → Nat) × Nat × (Nat → Nat)
abbrev VL7 : Type := (Nat → Int64) × (Nat → Int64) × Nat × (Nat → Option Nat) × Nat
abbrev VL8 : Type := (Nat → Nat) × (Nat → Int64) × (Nat → Int64) × (Nat → Nat) × Nat
abbrev VL9 : Type := Int64 × Nat × (Nat → Int64) × Nat × (Nat → Option Nat)
abbrev VL10 : Type := Nat × (Nat → Nat) × (Nat → Int64) × (Nat → Int64) × (Nat → Nat)
abbrev VL11 : Type := Nat × Int64 × Nat × (Nat → Int64) × Nat
abbrev VL12 : Type := (Nat → Option Nat) × (Nat → Nat) × (Nat → Nat) × (Nat → Nat) × Nat
abbrev VL13 : Type := Int32 × Int32 × Nat × Nat × Int32
abbrev VL14 : Type := Nat × Nat × Int64 × Int32 × Int32
abbrev VL15 : Type := Nat × (Nat → Int32) × (Nat → Bool) × (Nat → Int64) × (Nat → Nat)
abbrev VL16 : Type := Nat × (Nat → Int64) × (Nat → Nat) × Int64 × Int64
abbrev VL17 : Type := Nat × va_W × va_W
abbrev VM0 : Type := VL0 × VL1 × VL2 × VL3 × VL4
abbrev VM1 : Type := VL5 × VL6 × VL7 × VL8 × VL9
abbrev VM2 : Type := VL10 × VL11 × VL12 × VL13 × VL14
abbrev VM3 : Type := VL15 × VL16 × VL17
/-- the class: its fixed objects, its lists and tables, what never changes -/
abbrev VS : Type := VM0 × VM1 × VM2 × VM3
abbrev VS.tpA (x : VS) : Nat := x.1.1.1
abbrev VS.s_tpA (x : VS) (v : Nat) : VS := (((v, x.1.1.2), x.1.2), x.2)
abbrev VS.tpN (x : VS) : Nat := x.1.1.2.1
abbrev VS.s_tpN (x : VS) (v : Nat) : VS := (((x.1.1.1, v, x.1.1.2.2), x.1.2), x.2)
abbrev VS.tape (x : VS) : Nat → Int32 := x.1.1.2.2.1
abbrev VS.s_tape (x : VS) (v : Nat → Int32) : VS := (((x.1.1.1, x.1.1.2.1, v, x.1.1.2.2.2), x.1.2), x.2)
abbrev VS.tapeLength (x : VS) : Nat := x.1.1.2.2.2.1
abbrev VS.s_tapeLength (x : VS) (v : Nat) : VS := (((x.1.1.1, x.1.1.2.1, x.1.1.2.2.1, v, x.1.1.2.2.2.2), x.1.2), x.2)
abbrev VS.faultCode (x : VS) : Int32 := x.1.1.2.2.2.2
abbrev VS.s_faultCode (x : VS) (v : Int32) : VS := (((x.1.1.1, x.1.1.2.1, x.1.1.2.2.1, x.1.1.2.2.2.1, v), x.1.2), x.2)
abbrev VS.faultPlace (x : VS) : Int32 := x.1.2.1.1
abbrev VS.s_faultPlace (x : VS) (v : Int32) : VS := ((x.1.1, (v, x.1.2.1.2), x.1.2.2), x.2)
abbrev VS.diskBlocks (x : VS) : Nat := x.1.2.1.2.1
abbrev VS.s_diskBlocks (x : VS) (v : Nat) : VS := ((x.1.1, (x.1.2.1.1, v, x.1.2.1.2.2), x.1.2.2), x.2)
abbrev VS.powered (x : VS) : Bool := x.1.2.1.2.2.1
abbrev VS.s_powered (x : VS) (v : Bool) : VS := ((x.1.1, (x.1.2.1.1, x.1.2.1.2.1, v, x.1.2.1.2.2.2), x.1.2.2), x.2)
abbrev VS.cutLeft (x : VS) : Int32 := x.1.2.1.2.2.2.1
abbrev VS.s_cutLeft (x : VS) (v : Int32) : VS := ((x.1.1, (x.1.2.1.1, x.1.2.1.2.1, x.1.2.1.2.2.1, v, x.1.2.1.2.2.2.2), x.1.2.2), x.2)
abbrev VS.writes (x : VS) : Nat := x.1.2.1.2.2.2.2
abbrev VS.s_writes (x : VS) (v : Nat) : VS := ((x.1.1, (x.1.2.1.1, x.1.2.1.2.1, x.1.2.1.2.2.1, x.1.2.1.2.2.2.1, v), x.1.2.2), x.2)
abbrev VS.hasTable (x : VS) : Bool := x.1.2.2.1.1
abbrev VS.s_hasTable (x : VS) (v : Bool) : VS := ((x.1.1, x.1.2.1, (v, x.1.2.2.1.2), x.1.2.2.2), x.2)
abbrev VS.jA (x : VS) : Nat → Nat := x.1.2.2.1.2.1
abbrev VS.s_jA (x : VS) (v : Nat → Nat) : VS := ((x.1.1, x.1.2.1, (x.1.2.2.1.1, v, x.1.2.2.1.2.2), x.1.2.2.2), x.2)
abbrev VS.jN (x : VS) : Nat := x.1.2.2.1.2.2.1
abbrev VS.s_jN (x : VS) (v : Nat) : VS := ((x.1.1, x.1.2.1, (x.1.2.2.1.1, x.1.2.2.1.2.1, v, x.1.2.2.1.2.2.2), x.1.2.2.2), x.2)
abbrev VS.jK (x : VS) : Nat → Nat := x.1.2.2.1.2.2.2.1
abbrev VS.s_jK (x : VS) (v : Nat → Nat) : VS := ((x.1.1, x.1.2.1, (x.1.2.2.1.1, x.1.2.2.1.2.1, x.1.2.2.1.2.2.1, v, x.1.2.2.1.2.2.2.2), x.1.2.2.2), x.2)
abbrev VS.jO (x : VS) : Nat → Nat := x.1.2.2.1.2.2.2.2
abbrev VS.s_jO (x : VS) (v : Nat → Nat) : VS := ((x.1.1, x.1.2.1, (x.1.2.2.1.1, x.1.2.2.1.2.1, x.1.2.2.1.2.2.1, x.1.2.2.1.2.2.2.1, v), x.1.2.2.2), x.2)
abbrev VS.jU (x : VS) : Nat → Nat := x.1.2.2.2.1.1
abbrev VS.s_jU (x : VS) (v : Nat → Nat) : VS := ((x.1.1, x.1.2.1, x.1.2.2.1, (v, x.1.2.2.2.1.2), x.1.2.2.2.2), x.2)
abbrev VS.jB (x : VS) : Nat → Nat := x.1.2.2.2.1.2.1
abbrev VS.s_jB (x : VS) (v : Nat → Nat) : VS := ((x.1.1, x.1.2.1, x.1.2.2.1, (x.1.2.2.2.1.1, v, x.1.2.2.2.1.2.2), x.1.2.2.2.2), x.2)
abbrev VS.jF (x : VS) : Nat → Int64 := x.1.2.2.2.1.2.2.1
abbrev VS.s_jF (x : VS) (v : Nat → Int64) : VS := ((x.1.1, x.1.2.1, x.1.2.2.1, (x.1.2.2.2.1.1, x.1.2.2.2.1.2.1, v, x.1.2.2.2.1.2.2.2), x.1.2.2.2.2), x.2)
abbrev VS.jS (x : VS) : Nat → Int64 := x.1.2.2.2.1.2.2.2.1
abbrev VS.s_jS (x : VS) (v : Nat → Int64) : VS := ((x.1.1, x.1.2.1, x.1.2.2.1, (x.1.2.2.2.1.1, x.1.2.2.2.1.2.1, x.1.2.2.2.1.2.2.1, v, x.1.2.2.2.1.2.2.2.2), x.1.2.2.2.2), x.2)
abbrev VS.jsize (x : VS) : Nat := x.1.2.2.2.1.2.2.2.2
abbrev VS.s_jsize (x : VS) (v : Nat) : VS := ((x.1.1, x.1.2.1, x.1.2.2.1, (x.1.2.2.2.1.1, x.1.2.2.2.1.2.1, x.1.2.2.2.1.2.2.1, x.1.2.2.2.1.2.2.2.1, v), x.1.2.2.2.2), x.2)
abbrev VS.jkept (x : VS) : Nat := x.1.2.2.2.2.1
abbrev VS.s_jkept (x : VS) (v : Nat) : VS := ((x.1.1, x.1.2.1, x.1.2.2.1, x.1.2.2.2.1, (v, x.1.2.2.2.2.2)), x.2)
abbrev VS.junits (x : VS) : Nat := x.1.2.2.2.2.2.1
abbrev VS.s_junits (x : VS) (v : Nat) : VS := ((x.1.1, x.1.2.1, x.1.2.2.1, x.1.2.2.2.1, (x.1.2.2.2.2.1, v, x.1.2.2.2.2.2.2)), x.2)
abbrev VS.jlimit (x : VS) : Nat := x.1.2.2.2.2.2.2.1
abbrev VS.s_jlimit (x : VS) (v : Nat) : VS := ((x.1.1, x.1.2.1, x.1.2.2.1, x.1.2.2.2.1, (x.1.2.2.2.2.1, x.1.2.2.2.2.2.1, v, x.1.2.2.2.2.2.2.2)), x.2)
abbrev VS.jblock (x : VS) : Nat := x.1.2.2.2.2.2.2.2.1
abbrev VS.s_jblock (x : VS) (v : Nat) : VS := ((x.1.1, x.1.2.1, x.1.2.2.1, x.1.2.2.2.1, (x.1.2.2.2.2.1, x.1.2.2.2.2.2.1, x.1.2.2.2.2.2.2.1, v, x.1.2.2.2.2.2.2.2.2)), x.2)
abbrev VS.jfill (x : VS) : Nat := x.1.2.2.2.2.2.2.2.2
abbrev VS.s_jfill (x : VS) (v : Nat) : VS := ((x.1.1, x.1.2.1, x.1.2.2.1, x.1.2.2.2.1, (x.1.2.2.2.2.1, x.1.2.2.2.2.2.1, x.1.2.2.2.2.2.2.1, x.1.2.2.2.2.2.2.2.1, v)), x.2)
abbrev VS.jch (x : VS) : Bool := x.2.1.1.1
abbrev VS.s_jch (x : VS) (v : Bool) : VS := (x.1, ((v, x.2.1.1.2), x.2.1.2), x.2.2)
abbrev VS.hA (x : VS) : Nat → Nat := x.2.1.1.2.1
abbrev VS.s_hA (x : VS) (v : Nat → Nat) : VS := (x.1, ((x.2.1.1.1, v, x.2.1.1.2.2), x.2.1.2), x.2.2)
abbrev VS.hN (x : VS) : Nat := x.2.1.1.2.2.1
abbrev VS.s_hN (x : VS) (v : Nat) : VS := (x.1, ((x.2.1.1.1, x.2.1.1.2.1, v, x.2.1.1.2.2.2), x.2.1.2), x.2.2)
abbrev VS.hO (x : VS) : Nat → Nat := x.2.1.1.2.2.2.1
abbrev VS.s_hO (x : VS) (v : Nat → Nat) : VS := (x.1, ((x.2.1.1.1, x.2.1.1.2.1, x.2.1.1.2.2.1, v, x.2.1.1.2.2.2.2), x.2.1.2), x.2.2)
abbrev VS.hT (x : VS) : Nat → Int64 := x.2.1.1.2.2.2.2
abbrev VS.s_hT (x : VS) (v : Nat → Int64) : VS := (x.1, ((x.2.1.1.1, x.2.1.1.2.1, x.2.1.1.2.2.1, x.2.1.1.2.2.2.1, v), x.2.1.2), x.2.2)
abbrev VS.hV (x : VS) : Nat → Int64 := x.2.1.2.1.1
abbrev VS.s_hV (x : VS) (v : Nat → Int64) : VS := (x.1, (x.2.1.1, (v, x.2.1.2.1.2), x.2.1.2.2), x.2.2)
abbrev VS.hsize (x : VS) : Nat := x.2.1.2.1.2.1
abbrev VS.s_hsize (x : VS) (v : Nat) : VS := (x.1, (x.2.1.1, (x.2.1.2.1.1, v, x.2.1.2.1.2.2), x.2.1.2.2), x.2.2)
abbrev VS.gA (x : VS) : Nat → Nat := x.2.1.2.1.2.2.1
abbrev VS.s_gA (x : VS) (v : Nat → Nat) : VS := (x.1, (x.2.1.1, (x.2.1.2.1.1, x.2.1.2.1.2.1, v, x.2.1.2.1.2.2.2), x.2.1.2.2), x.2.2)
abbrev VS.gN (x : VS) : Nat := x.2.1.2.1.2.2.2.1
abbrev VS.s_gN (x : VS) (v : Nat) : VS := (x.1, (x.2.1.1, (x.2.1.2.1.1, x.2.1.2.1.2.1, x.2.1.2.1.2.2.1, v, x.2.1.2.1.2.2.2.2), x.2.1.2.2), x.2.2)
abbrev VS.gO (x : VS) : Nat → Nat := x.2.1.2.1.2.2.2.2
abbrev VS.s_gO (x : VS) (v : Nat → Nat) : VS := (x.1, (x.2.1.1, (x.2.1.2.1.1, x.2.1.2.1.2.1, x.2.1.2.1.2.2.1, x.2.1.2.1.2.2.2.1, v), x.2.1.2.2), x.2.2)
abbrev VS.gT (x : VS) : Nat → Int64 := x.2.1.2.2.1.1
abbrev VS.s_gT (x : VS) (v : Nat → Int64) : VS := (x.1, (x.2.1.1, x.2.1.2.1, (v, x.2.1.2.2.1.2), x.2.1.2.2.2), x.2.2)
abbrev VS.gV (x : VS) : Nat → Int64 := x.2.1.2.2.1.2.1
abbrev VS.s_gV (x : VS) (v : Nat → Int64) : VS := (x.1, (x.2.1.1, x.2.1.2.1, (x.2.1.2.2.1.1, v, x.2.1.2.2.1.2.2), x.2.1.2.2.2), x.2.2)
abbrev VS.gsize (x : VS) : Nat := x.2.1.2.2.1.2.2.1
abbrev VS.s_gsize (x : VS) (v : Nat) : VS := (x.1, (x.2.1.1, x.2.1.2.1, (x.2.1.2.2.1.1, x.2.1.2.2.1.2.1, v, x.2.1.2.2.1.2.2.2), x.2.1.2.2.2), x.2.2)
abbrev VS.nP (x : VS) : Nat → Option Nat := x.2.1.2.2.1.2.2.2.1
abbrev VS.s_nP (x : VS) (v : Nat → Option Nat) : VS := (x.1, (x.2.1.1, x.2.1.2.1, (x.2.1.2.2.1.1, x.2.1.2.2.1.2.1, x.2.1.2.2.1.2.2.1, v, x.2.1.2.2.1.2.2.2.2), x.2.1.2.2.2), x.2.2)
abbrev VS.npc (x : VS) : Nat := x.2.1.2.2.1.2.2.2.2
abbrev VS.s_npc (x : VS) (v : Nat) : VS := (x.1, (x.2.1.1, x.2.1.2.1, (x.2.1.2.2.1.1, x.2.1.2.2.1.2.1, x.2.1.2.2.1.2.2.1, x.2.1.2.2.1.2.2.2.1, v), x.2.1.2.2.2), x.2.2)
abbrev VS.nsO (x : VS) : Nat → Nat := x.2.1.2.2.2.1.1
abbrev VS.s_nsO (x : VS) (v : Nat → Nat) : VS := (x.1, (x.2.1.1, x.2.1.2.1, x.2.1.2.2.1, (v, x.2.1.2.2.2.1.2), x.2.1.2.2.2.2), x.2.2)
abbrev VS.nsF (x : VS) : Nat → Int64 := x.2.1.2.2.2.1.2.1
abbrev VS.s_nsF (x : VS) (v : Nat → Int64) : VS := (x.1, (x.2.1.1, x.2.1.2.1, x.2.1.2.2.1, (x.2.1.2.2.2.1.1, v, x.2.1.2.2.2.1.2.2), x.2.1.2.2.2.2), x.2.2)
abbrev VS.nsT (x : VS) : Nat → Int64 := x.2.1.2.2.2.1.2.2.1
abbrev VS.s_nsT (x : VS) (v : Nat → Int64) : VS := (x.1, (x.2.1.1, x.2.1.2.1, x.2.1.2.2.1, (x.2.1.2.2.2.1.1, x.2.1.2.2.2.1.2.1, v, x.2.1.2.2.2.1.2.2.2), x.2.1.2.2.2.2), x.2.2)
abbrev VS.nsP (x : VS) : Nat → Nat := x.2.1.2.2.2.1.2.2.2.1
abbrev VS.s_nsP (x : VS) (v : Nat → Nat) : VS := (x.1, (x.2.1.1, x.2.1.2.1, x.2.1.2.2.1, (x.2.1.2.2.2.1.1, x.2.1.2.2.2.1.2.1, x.2.1.2.2.2.1.2.2.1, v, x.2.1.2.2.2.1.2.2.2.2), x.2.1.2.2.2.2), x.2.2)
abbrev VS.nsc (x : VS) : Nat := x.2.1.2.2.2.1.2.2.2.2
abbrev VS.s_nsc (x : VS) (v : Nat) : VS := (x.1, (x.2.1.1, x.2.1.2.1, x.2.1.2.2.1, (x.2.1.2.2.2.1.1, x.2.1.2.2.2.1.2.1, x.2.1.2.2.2.1.2.2.1, x.2.1.2.2.2.1.2.2.2.1, v), x.2.1.2.2.2.2), x.2.2)
abbrev VS.nhor (x : VS) : Int64 := x.2.1.2.2.2.2.1
abbrev VS.s_nhor (x : VS) (v : Int64) : VS := (x.1, (x.2.1.1, x.2.1.2.1, x.2.1.2.2.1, x.2.1.2.2.2.1, (v, x.2.1.2.2.2.2.2)), x.2.2)
abbrev VS.nser (x : VS) : Nat := x.2.1.2.2.2.2.2.1
abbrev VS.s_nser (x : VS) (v : Nat) : VS := (x.1, (x.2.1.1, x.2.1.2.1, x.2.1.2.2.1, x.2.1.2.2.2.1, (x.2.1.2.2.2.2.1, v, x.2.1.2.2.2.2.2.2)), x.2.2)
abbrev VS.nlast (x : VS) : Nat → Int64 := x.2.1.2.2.2.2.2.2.1
abbrev VS.s_nlast (x : VS) (v : Nat → Int64) : VS := (x.1, (x.2.1.1, x.2.1.2.1, x.2.1.2.2.1, x.2.1.2.2.2.1, (x.2.1.2.2.2.2.1, x.2.1.2.2.2.2.2.1, v, x.2.1.2.2.2.2.2.2.2)), x.2.2)
abbrev VS.ncat (x : VS) : Nat := x.2.1.2.2.2.2.2.2.2.1
abbrev VS.s_ncat (x : VS) (v : Nat) : VS := (x.1, (x.2.1.1, x.2.1.2.1, x.2.1.2.2.1, x.2.1.2.2.2.1, (x.2.1.2.2.2.2.1, x.2.1.2.2.2.2.2.1, x.2.1.2.2.2.2.2.2.1, v, x.2.1.2.2.2.2.2.2.2.2)), x.2.2)
abbrev VS.sP (x : VS) : Nat → Option Nat := x.2.1.2.2.2.2.2.2.2.2
abbrev VS.s_sP (x : VS) (v : Nat → Option Nat) : VS := (x.1, (x.2.1.1, x.2.1.2.1, x.2.1.2.2.1, x.2.1.2.2.2.1, (x.2.1.2.2.2.2.1, x.2.1.2.2.2.2.2.1, x.2.1.2.2.2.2.2.2.1, x.2.1.2.2.2.2.2.2.2.1, v)), x.2.2)
abbrev VS.spc (x : VS) : Nat := x.2.2.1.1.1
abbrev VS.s_spc (x : VS) (v : Nat) : VS := (x.1, x.2.1, ((v, x.2.2.1.1.2), x.2.2.1.2), x.2.2.2)
abbrev VS.ssO (x : VS) : Nat → Nat := x.2.2.1.1.2.1
abbrev VS.s_ssO (x : VS) (v : Nat → Nat) : VS := (x.1, x.2.1, ((x.2.2.1.1.1, v, x.2.2.1.1.2.2), x.2.2.1.2), x.2.2.2)
abbrev VS.ssF (x : VS) : Nat → Int64 := x.2.2.1.1.2.2.1
abbrev VS.s_ssF (x : VS) (v : Nat → Int64) : VS := (x.1, x.2.1, ((x.2.2.1.1.1, x.2.2.1.1.2.1, v, x.2.2.1.1.2.2.2), x.2.2.1.2), x.2.2.2)
abbrev VS.ssT (x : VS) : Nat → Int64 := x.2.2.1.1.2.2.2.1
abbrev VS.s_ssT (x : VS) (v : Nat → Int64) : VS := (x.1, x.2.1, ((x.2.2.1.1.1, x.2.2.1.1.2.1, x.2.2.1.1.2.2.1, v, x.2.2.1.1.2.2.2.2), x.2.2.1.2), x.2.2.2)
abbrev VS.ssP (x : VS) : Nat → Nat := x.2.2.1.1.2.2.2.2
abbrev VS.s_ssP (x : VS) (v : Nat → Nat) : VS := (x.1, x.2.1, ((x.2.2.1.1.1, x.2.2.1.1.2.1, x.2.2.1.1.2.2.1, x.2.2.1.1.2.2.2.1, v), x.2.2.1.2), x.2.2.2)
abbrev VS.ssc (x : VS) : Nat := x.2.2.1.2.1.1
abbrev VS.s_ssc (x : VS) (v : Nat) : VS := (x.1, x.2.1, (x.2.2.1.1, (v, x.2.2.1.2.1.2), x.2.2.1.2.2), x.2.2.2)
abbrev VS.shor (x : VS) : Int64 := x.2.2.1.2.1.2.1
abbrev VS.s_shor (x : VS) (v : Int64) : VS := (x.1, x.2.1, (x.2.2.1.1, (x.2.2.1.2.1.1, v, x.2.2.1.2.1.2.2), x.2.2.1.2.2), x.2.2.2)
abbrev VS.sser (x : VS) : Nat := x.2.2.1.2.1.2.2.1
abbrev VS.s_sser (x : VS) (v : Nat) : VS := (x.1, x.2.1, (x.2.2.1.1, (x.2.2.1.2.1.1, x.2.2.1.2.1.2.1, v, x.2.2.1.2.1.2.2.2), x.2.2.1.2.2), x.2.2.2)
abbrev VS.slast (x : VS) : Nat → Int64 := x.2.2.1.2.1.2.2.2.1
abbrev VS.s_slast (x : VS) (v : Nat → Int64) : VS := (x.1, x.2.1, (x.2.2.1.1, (x.2.2.1.2.1.1, x.2.2.1.2.1.2.1, x.2.2.1.2.1.2.2.1, v, x.2.2.1.2.1.2.2.2.2), x.2.2.1.2.2), x.2.2.2)
abbrev VS.scat (x : VS) : Nat := x.2.2.1.2.1.2.2.2.2
abbrev VS.s_scat (x : VS) (v : Nat) : VS := (x.1, x.2.1, (x.2.2.1.1, (x.2.2.1.2.1.1, x.2.2.1.2.1.2.1, x.2.2.1.2.1.2.2.1, x.2.2.1.2.1.2.2.2.1, v), x.2.2.1.2.2), x.2.2.2)
abbrev VS.kn (x : VS) : Nat → Option Nat := x.2.2.1.2.2.1.1
abbrev VS.s_kn (x : VS) (v : Nat → Option Nat) : VS := (x.1, x.2.1, (x.2.2.1.1, x.2.2.1.2.1, (v, x.2.2.1.2.2.1.2), x.2.2.1.2.2.2), x.2.2.2)
abbrev VS.rS (x : VS) : Nat → Nat := x.2.2.1.2.2.1.2.1
abbrev VS.s_rS (x : VS) (v : Nat → Nat) : VS := (x.1, x.2.1, (x.2.2.1.1, x.2.2.1.2.1, (x.2.2.1.2.2.1.1, v, x.2.2.1.2.2.1.2.2), x.2.2.1.2.2.2), x.2.2.2)
abbrev VS.rE (x : VS) : Nat → Nat := x.2.2.1.2.2.1.2.2.1
abbrev VS.s_rE (x : VS) (v : Nat → Nat) : VS := (x.1, x.2.1, (x.2.2.1.1, x.2.2.1.2.1, (x.2.2.1.2.2.1.1, x.2.2.1.2.2.1.2.1, v, x.2.2.1.2.2.1.2.2.2), x.2.2.1.2.2.2), x.2.2.2)
abbrev VS.rV (x : VS) : Nat → Nat := x.2.2.1.2.2.1.2.2.2.1
abbrev VS.s_rV (x : VS) (v : Nat → Nat) : VS := (x.1, x.2.1, (x.2.2.1.1, x.2.2.1.2.1, (x.2.2.1.2.2.1.1, x.2.2.1.2.2.1.2.1, x.2.2.1.2.2.1.2.2.1, v, x.2.2.1.2.2.1.2.2.2.2), x.2.2.1.2.2.2), x.2.2.2)
abbrev VS.rlab (x : VS) : Nat := x.2.2.1.2.2.1.2.2.2.2
abbrev VS.s_rlab (x : VS) (v : Nat) : VS := (x.1, x.2.1, (x.2.2.1.1, x.2.2.1.2.1, (x.2.2.1.2.2.1.1, x.2.2.1.2.2.1.2.1, x.2.2.1.2.2.1.2.2.1, x.2.2.1.2.2.1.2.2.2.1, v), x.2.2.1.2.2.2), x.2.2.2)
abbrev VS.rcode (x : VS) : Int32 := x.2.2.1.2.2.2.1.1
abbrev VS.s_rcode (x : VS) (v : Int32) : VS := (x.1, x.2.1, (x.2.2.1.1, x.2.2.1.2.1, x.2.2.1.2.2.1, (v, x.2.2.1.2.2.2.1.2), x.2.2.1.2.2.2.2), x.2.2.2)
abbrev VS.rplace (x : VS) : Int32 := x.2.2.1.2.2.2.1.2.1
abbrev VS.s_rplace (x : VS) (v : Int32) : VS := (x.1, x.2.1, (x.2.2.1.1, x.2.2.1.2.1, x.2.2.1.2.2.1, (x.2.2.1.2.2.2.1.1, v, x.2.2.1.2.2.2.1.2.2), x.2.2.1.2.2.2.2), x.2.2.2)
abbrev VS.qtp (x : VS) : Nat := x.2.2.1.2.2.2.1.2.2.1
abbrev VS.s_qtp (x : VS) (v : Nat) : VS := (x.1, x.2.1, (x.2.2.1.1, x.2.2.1.2.1, x.2.2.1.2.2.1, (x.2.2.1.2.2.2.1.1, x.2.2.1.2.2.2.1.2.1, v, x.2.2.1.2.2.2.1.2.2.2), x.2.2.1.2.2.2.2), x.2.2.2)
abbrev VS.qlen (x : VS) : Nat := x.2.2.1.2.2.2.1.2.2.2.1
abbrev VS.s_qlen (x : VS) (v : Nat) : VS := (x.1, x.2.1, (x.2.2.1.1, x.2.2.1.2.1, x.2.2.1.2.2.1, (x.2.2.1.2.2.2.1.1, x.2.2.1.2.2.2.1.2.1, x.2.2.1.2.2.2.1.2.2.1, v, x.2.2.1.2.2.2.1.2.2.2.2), x.2.2.1.2.2.2.2), x.2.2.2)
abbrev VS.qk (x : VS) : Int32 := x.2.2.1.2.2.2.1.2.2.2.2
abbrev VS.s_qk (x : VS) (v : Int32) : VS := (x.1, x.2.1, (x.2.2.1.1, x.2.2.1.2.1, x.2.2.1.2.2.1, (x.2.2.1.2.2.2.1.1, x.2.2.1.2.2.2.1.2.1, x.2.2.1.2.2.2.1.2.2.1, x.2.2.1.2.2.2.1.2.2.2.1, v), x.2.2.1.2.2.2.2), x.2.2.2)
abbrev VS.qst (x : VS) : Nat := x.2.2.1.2.2.2.2.1
abbrev VS.s_qst (x : VS) (v : Nat) : VS := (x.1, x.2.1, (x.2.2.1.1, x.2.2.1.2.1, x.2.2.1.2.2.1, x.2.2.1.2.2.2.1, (v, x.2.2.1.2.2.2.2.2)), x.2.2.2)
abbrev VS.qen (x : VS) : Nat := x.2.2.1.2.2.2.2.2.1
abbrev VS.s_qen (x : VS) (v : Nat) : VS := (x.1, x.2.1, (x.2.2.1.1, x.2.2.1.2.1, x.2.2.1.2.2.1, x.2.2.1.2.2.2.1, (x.2.2.1.2.2.2.2.1, v, x.2.2.1.2.2.2.2.2.2)), x.2.2.2)
abbrev VS.qnum (x : VS) : Int64 := x.2.2.1.2.2.2.2.2.2.1
abbrev VS.s_qnum (x : VS) (v : Int64) : VS := (x.1, x.2.1, (x.2.2.1.1, x.2.2.1.2.1, x.2.2.1.2.2.1, x.2.2.1.2.2.2.1, (x.2.2.1.2.2.2.2.1, x.2.2.1.2.2.2.2.2.1, v, x.2.2.1.2.2.2.2.2.2.2)), x.2.2.2)
abbrev VS.qcode (x : VS) : Int32 := x.2.2.1.2.2.2.2.2.2.2.1
abbrev VS.s_qcode (x : VS) (v : Int32) : VS := (x.1, x.2.1, (x.2.2.1.1, x.2.2.1.2.1, x.2.2.1.2.2.1, x.2.2.1.2.2.2.1, (x.2.2.1.2.2.2.2.1, x.2.2.1.2.2.2.2.2.1, x.2.2.1.2.2.2.2.2.2.1, v, x.2.2.1.2.2.2.2.2.2.2.2)), x.2.2.2)
abbrev VS.qpl (x : VS) : Int32 := x.2.2.1.2.2.2.2.2.2.2.2
abbrev VS.s_qpl (x : VS) (v : Int32) : VS := (x.1, x.2.1, (x.2.2.1.1, x.2.2.1.2.1, x.2.2.1.2.2.1, x.2.2.1.2.2.2.1, (x.2.2.1.2.2.2.2.1, x.2.2.1.2.2.2.2.2.1, x.2.2.1.2.2.2.2.2.2.1, x.2.2.1.2.2.2.2.2.2.2.1, v)), x.2.2.2)
abbrev VS.adep (x : VS) : Nat := x.2.2.2.1.1
abbrev VS.s_adep (x : VS) (v : Nat) : VS := (x.1, x.2.1, x.2.2.1, ((v, x.2.2.2.1.2), x.2.2.2.2))
abbrev VS.aro (x : VS) : Nat → Int32 := x.2.2.2.1.2.1
abbrev VS.s_aro (x : VS) (v : Nat → Int32) : VS := (x.1, x.2.1, x.2.2.1, ((x.2.2.2.1.1, v, x.2.2.2.1.2.2), x.2.2.2.2))
abbrev VS.ahb (x : VS) : Nat → Bool := x.2.2.2.1.2.2.1
abbrev VS.s_ahb (x : VS) (v : Nat → Bool) : VS := (x.1, x.2.1, x.2.2.1, ((x.2.2.2.1.1, x.2.2.2.1.2.1, v, x.2.2.2.1.2.2.2), x.2.2.2.2))
abbrev VS.abf (x : VS) : Nat → Int64 := x.2.2.2.1.2.2.2.1
abbrev VS.s_abf (x : VS) (v : Nat → Int64) : VS := (x.1, x.2.1, x.2.2.1, ((x.2.2.2.1.1, x.2.2.2.1.2.1, x.2.2.2.1.2.2.1, v, x.2.2.2.1.2.2.2.2), x.2.2.2.2))
abbrev VS.bA (x : VS) : Nat → Nat := x.2.2.2.1.2.2.2.2
abbrev VS.s_bA (x : VS) (v : Nat → Nat) : VS := (x.1, x.2.1, x.2.2.1, ((x.2.2.2.1.1, x.2.2.2.1.2.1, x.2.2.2.1.2.2.1, x.2.2.2.1.2.2.2.1, v), x.2.2.2.2))
abbrev VS.bN (x : VS) : Nat := x.2.2.2.2.1.1
abbrev VS.s_bN (x : VS) (v : Nat) : VS := (x.1, x.2.1, x.2.2.1, (x.2.2.2.1, (v, x.2.2.2.2.1.2), x.2.2.2.2.2))
abbrev VS.bT (x : VS) : Nat → Int64 := x.2.2.2.2.1.2.1
abbrev VS.s_bT (x : VS) (v : Nat → Int64) : VS := (x.1, x.2.1, x.2.2.1, (x.2.2.2.1, (x.2.2.2.2.1.1, v, x.2.2.2.2.1.2.2), x.2.2.2.2.2))
abbrev VS.bO (x : VS) : Nat → Nat := x.2.2.2.2.1.2.2.1
abbrev VS.s_bO (x : VS) (v : Nat → Nat) : VS := (x.1, x.2.1, x.2.2.1, (x.2.2.2.1, (x.2.2.2.2.1.1, x.2.2.2.2.1.2.1, v, x.2.2.2.2.1.2.2.2), x.2.2.2.2.2))
abbrev VS.afr (x : VS) : Int64 := x.2.2.2.2.1.2.2.2.1
abbrev VS.s_afr (x : VS) (v : Int64) : VS := (x.1, x.2.1, x.2.2.1, (x.2.2.2.1, (x.2.2.2.2.1.1, x.2.2.2.2.1.2.1, x.2.2.2.2.1.2.2.1, v, x.2.2.2.2.1.2.2.2.2), x.2.2.2.2.2))
abbrev VS.awd (x : VS) : Int64 := x.2.2.2.2.1.2.2.2.2
abbrev VS.s_awd (x : VS) (v : Int64) : VS := (x.1, x.2.1, x.2.2.1, (x.2.2.2.1, (x.2.2.2.2.1.1, x.2.2.2.2.1.2.1, x.2.2.2.2.1.2.2.1, x.2.2.2.2.1.2.2.2.1, v), x.2.2.2.2.2))
abbrev VS.awi (x : VS) : Nat := x.2.2.2.2.2.1
abbrev VS.s_awi (x : VS) (v : Nat) : VS := (x.1, x.2.1, x.2.2.1, (x.2.2.2.1, x.2.2.2.2.1, (v, x.2.2.2.2.2.2)))
abbrev VS.ll (x : VS) : va_W := x.2.2.2.2.2.2.1
abbrev VS.s_ll (x : VS) (v : va_W) : VS := (x.1, x.2.1, x.2.2.1, (x.2.2.2.1, x.2.2.2.2.1, (x.2.2.2.2.2.1, v, x.2.2.2.2.2.2.2)))
abbrev VS.pl (x : VS) : va_W := x.2.2.2.2.2.2.2
abbrev VS.s_pl (x : VS) (v : va_W) : VS := (x.1, x.2.1, x.2.2.1, (x.2.2.2.1, x.2.2.2.2.1, (x.2.2.2.2.2.1, x.2.2.2.2.2.2.1, v)))
/-- the cells of x, the references of y -/
def VWf (dA : Nat → ClassId) (h : Nat) (ad : Nat → Nat) (x y : VS) : va_W := [(h, .inr (0, [.ref y.tpA, .int (nI x.tapeLength), .int x.faultCode, .int x.faultPlace, .int (nI x.diskBlocks), .int (bI x.powered), .int x.cutLeft, .int (nI x.writes), .ref (ad 0), .ref (ad 1), .ref (ad 2), .ref (ad 3), .ref (ad 10), .ref (ad 17), .ref (ad 18), .ref (ad 22), .ref (ad 24), .int (bI x.hasTable)])), (x.tpA, .inl (dA 0, x.tpN, .inl x.tape)), (ad 0, .inr (1, [.ref (y.jA 0), .ref (y.jA 1), .ref (y.jA 2), .ref (y.jA 3), .ref (y.jA 4), .ref (y.jA 5), .int (nI x.jsize), .int (nI x.jkept), .int (nI x.junits), .int (nI x.jlimit), .int (nI x.jblock), .int (nI x.jfill), .int (bI x.jch)])), (x.jA 0, .inl (dA 1, x.jN, .inl (fun z9 => nI (x.jK z9)))), (x.jA 1, .inl (dA 1, x.jN, .inl (fun z9 => nI (x.jO z9)))), (x.jA 2, .inl (dA 1, x.jN, .inl (fun z9 => nI (x.jU z9)))), (x.jA 3, .inl (dA 1, x.jN, .inl (fun z9 => nI (x.jB z9)))), (x.jA 4, .inl (dA 2, x.jN, .inr (.inl x.jF))), (x.jA 5, .inl (dA 2, x.jN, .inr (.inl x.jS))), (ad 1, .inr (2, [.ref (y.hA 0), .ref (y.hA 1), .ref (y.hA 2), .int (nI x.hsize)])), (x.hA 0, .inl (dA 1, x.hN, .inl (fun z9 => nI (x.hO z9)))), (x.hA 1, .inl (dA 2, x.hN, .inr (.inl x.hT))), (x.hA 2, .inl (dA 2, x.hN, .inr (.inl x.hV))), (ad 2, .inr (2, [.ref (y.gA 0), .ref (y.gA 1), .ref (y.gA 2), .int (nI x.gsize)])), (x.gA 0, .inl (dA 1, x.gN, .inl (fun z9 => nI (x.gO z9)))), (x.gA 1, .inl (dA 2, x.gN, .inr (.inl x.gT))), (x.gA 2, .inl (dA 2, x.gN, .inr (.inl x.gV))), (ad 3, .inr (3, [.ref (ad 4), .int (nI x.npc), .ref (ad 5), .ref (ad 6), .ref (ad 7), .ref (ad 8), .int (nI x.nsc), .long x.nhor, .int (nI x.nser), .ref (ad 9), .int (nI x.ncat)])), (ad 4, .inl (dA 4, 32, .inr (.inr (.inr (.inr x.nP))))), (ad 5, .inl (dA 1, 64, .inl (fun z9 => nI (x.nsO z9)))), (ad 6, .inl (dA 2, 64, .inr (.inl x.nsF))), (ad 7, .inl (dA 2, 64, .inr (.inl x.nsT))), (ad 8, .inl (dA 1, 64, .inl (fun z9 => nI (x.nsP z9)))), (ad 9, .inl (dA 2, 256, .inr (.inl x.nlast))), (ad 10, .inr (3, [.ref (ad 11), .int (nI x.spc), .ref (ad 12), .ref (ad 13), .ref (ad 14), .ref (ad 15), .int (nI x.ssc), .long x.shor, .int (nI x.sser), .ref (ad 16), .int (nI x.scat)])), (ad 11, .inl (dA 4, 32, .inr (.inr (.inr (.inr x.sP))))), (ad 12, .inl (dA 1, 64, .inl (fun z9 => nI (x.ssO z9)))), (ad 13, .inl (dA 2, 64, .inr (.inl x.ssF))), (ad 14, .inl (dA 2, 64, .inr (.inl x.ssT))), (ad 15, .inl (dA 1, 64, .inl (fun z9 => nI (x.ssP z9)))), (ad 16, .inl (dA 2, 256, .inr (.inl x.slast))), (ad 17, .inl (dA 5, 256, .inr (.inr (.inr (.inr x.kn))))), (ad 18, .inr (4, [.ref (ad 19), .ref (ad 20), .ref (ad 21), .int (nI x.rlab), .int x.rcode, .int x.rplace])), (ad 19, .inl (dA 1, 6, .inl (fun z9 => nI (x.rS z9)))), (ad 20, .inl (dA 1, 6, .inl (fun z9 => nI (x.rE z9)))), (ad 21, .inl (dA 1, 6, .inl (fun z9 => nI (x.rV z9)))), (ad 22, .inr (5, [.ref y.qtp, .int (nI x.qlen), .int x.qk, .int (nI x.qst), .int (nI x.qen), .long x.qnum, .int x.qcode, .int x.qpl, .ref (ad 23)])), (ad 24, .inr (7, [.ref (ad 25), .int (nI x.adep), .ref (ad 26), .ref (ad 27), .ref (ad 28), .ref (y.bA 0), .ref (y.bA 1), .long x.afr, .long x.awd, .int (nI x.awi)])), (ad 26, .inl (dA 1, 256, .inl x.aro)), (ad 27, .inl (dA 3, 256, .inl (fun z9 => bI (x.ahb z9)))), (ad 28, .inl (dA 2, 256, .inr (.inl x.abf))), (x.bA 0, .inl (dA 2, x.bN, .inr (.inl x.bT))), (x.bA 1, .inl (dA 1, x.bN, .inl (fun z9 => nI (x.bO z9))))] ++ (x.ll ++ x.pl)
def VW (dA : Nat → ClassId) (h : Nat) (ad : Nat → Nat) (x : VS) : va_W := VWf dA h ad x x
theorem cvPv {D : va_G} {dA : Nat → ClassId} {h : Nat} {ad : Nat → Nat} {H : Heap} {x y : VS} (e : x = y) (hP : va_P D vwCl (VW dA h ad x) H) : va_P D vwCl (VW dA h ad y) H := e ▸ hP
theorem cvDv {A : Nat → Prop} {dA : Nat → ClassId} {h : Nat} {ad : Nat → Nat} {x y : VS} (e : x = y) (hD : va_D A (VW dA h ad x)) : va_D A (VW dA h ad y) := e ▸ hD
theorem nd_of : ∀ {l : List Nat}, l.Nodup → va_nd l = true
  | [], _ => rfl
  | a :: l, h => by
    have h1 := List.nodup_cons.mp h
    show (decide (a ∉ l) && va_nd l) = true
    rw [nd_of h1.2, Bool.and_true]
    exact decide_eq_true h1.1
section JP
variable {p : Program} {l : Launch} {e : Env} {R : Room} {s : State} {m : MethodId} {args : Array Value} {below : List Frame} {meth : Method} {c : Code} {H : Heap} {locs : List Loc} {cells slots : Nat} {Q : State → Prop}
variable {D : va_G} {dA : Nat → ClassId} {A : Nat → Prop} {cc : ByteArray} {pc : Nat} {ls : Array Slot} {rest st0 : List Value} {ws : va_W} {a : Nat}
theorem jpV {mc ms : Nat} {S : Type} {post : S → Prop} {a : Array Value} (hr : va_Run p l e R s m args below meth c H locs cells slots mc ms (F0 m pc ls st0) rest (va_Qv post (fun _ t => bW D (va_A [] H.size) [] t) (va_A [] H.size) a) (va_A [] H.size))
    (hP : va_P D vwCl ws H) (hD : va_D A ws) (hS : va_S A s.heap H locs) (hA : ∀ q, s.heap.size ≤ q → A q)
    (kk : ∀ (u : S) (H1 : Heap) (locs1 : List Loc), post u → va_P D vwCl ws H1 → va_D A ws → va_S A s.heap H1 locs1 → W p l e R s m args below meth c H1 locs1 (cells + mc) (slots + ms) Q (F0 m (pc + 3) ls rest)) : W p l e R s m args below meth c H locs cells slots Q (F0 m pc ls st0) :=
  jnV (w1 := fun _ => []) hr hP hD hS hA [] (List.range ws.length) (wr := ws) rfl (rg_map ws) (nd_of List.nodup_range) (fun _ _ h => nomatch h) (fun u H1 l1 g1 g2 g3 g4 => kk u H1 l1 g1 (by rw [List.append_nil] at g2; exact g2) (by rw [List.append_nil] at g3; exact g3) g4)
theorem jpI {mc ms : Nat} {S : Type} {post : Int32 → S → Prop} {a : Array Value} (hr : va_Run p l e R s m args below meth c H locs cells slots mc ms (F0 m pc ls st0) rest (va_Qi post (fun _ t => bW D (va_A [] H.size) [] t) (va_A [] H.size) a) (va_A [] H.size))
    (hP : va_P D vwCl ws H) (hD : va_D A ws) (hS : va_S A s.heap H locs) (hA : ∀ q, s.heap.size ≤ q → A q)
    (kk : ∀ (r : Int32) (u : S) (H1 : Heap) (locs1 : List Loc), post r u → va_P D vwCl ws H1 → va_D A ws → va_S A s.heap H1 locs1 → W p l e R s m args below meth c H1 locs1 (cells + mc) (slots + ms) Q (F0 m (pc + 3) ls (.int r :: rest))) : W p l e R s m args below meth c H locs cells slots Q (F0 m pc ls st0) :=
  jnI (w1 := fun _ => []) hr hP hD hS hA [] (List.range ws.length) (wr := ws) rfl (rg_map ws) (nd_of List.nodup_range) (fun _ _ h => nomatch h) (fun r u H1 l1 g1 g2 g3 g4 => kk r u H1 l1 g1 (by rw [List.append_nil] at g2; exact g2) (by rw [List.append_nil] at g3; exact g3) g4)
theorem jpL {mc ms : Nat} {S : Type} {post : Int64 → S → Prop} {a : Array Value} (hr : va_Run p l e R s m args below meth c H locs cells slots mc ms (F0 m pc ls st0) rest (va_Ql post (fun _ t => bW D (va_A [] H.size) [] t) (va_A [] H.size) a) (va_A [] H.size))
    (hP : va_P D vwCl ws H) (hD : va_D A ws) (hS : va_S A s.heap H locs) (hA : ∀ q, s.heap.size ≤ q → A q)
    (kk : ∀ (r : Int64) (u : S) (H1 : Heap) (locs1 : List Loc), post r u → va_P D vwCl ws H1 → va_D A ws → va_S A s.heap H1 locs1 → W p l e R s m args below meth c H1 locs1 (cells + mc) (slots + ms) Q (F0 m (pc + 3) ls (.long r :: rest))) : W p l e R s m args below meth c H locs cells slots Q (F0 m pc ls st0) :=
  jnL (w1 := fun _ => []) hr hP hD hS hA [] (List.range ws.length) (wr := ws) rfl (rg_map ws) (nd_of List.nodup_range) (fun _ _ h => nomatch h) (fun r u H1 l1 g1 g2 g3 g4 => kk r u H1 l1 g1 (by rw [List.append_nil] at g2; exact g2) (by rw [List.append_nil] at g3; exact g3) g4)
end JP
theorem fm_range (ws : va_W) : (List.range ws.length).filterMap (fun i => ws[i]?) = ws := by
  have h := congrArg (List.filterMap id) (rg_map ws)
  rw [List.filterMap_map, List.filterMap_map] at h
  have h2 : List.filterMap (id ∘ some) ws = ws := by
    show List.filterMap some ws = ws
    exact List.filterMap_some
  rw [h2] at h
  exact h
section XV
variable {p : Program} {l : Launch} {e : Env} {R : Room} {s : State} {m : MethodId} {args : Array Value} {below : List Frame} {meth : Method} {c : Code} {H : Heap} {locs : List Loc} {cells slots : Nat} {Q : State → Prop}
variable {D : va_G} {dA : Nat → ClassId} {A : Nat → Prop} {cc : ByteArray} {pc : Nat} {ls : Array Slot} {rest st0 : List Value} {ws : va_W}
theorem xEndV (hP : va_P D vwCl ws H) (hD : va_D A ws) (hS : va_S A s.heap H locs) (t : State) (h1 : H.size ≤ t.heap.size) (h2 : ∀ q : Nat, q < H.size → t.heap[q]? = H[q]?) : va_F A s t ∧ bW D A ws t :=
  xEnd hP hD hS (List.range ws.length) (fm_range ws) (rg_map ws) (nd_of List.nodup_range) t h1 h2
theorem xfV {y : MethodName} {bytes : ByteArray} {maxL mc ms n index nL : Nat} {ret : Option FieldType} {rm : Room} {E : String} {w1 : va_W} {own C : String} {T : u_T} {N ci q0 : Nat} {fs : List Value} {b : Nat} {As : List Value}
    (hx : p.tables.exec = Jvm.exec) (hb : c.code = cc) (hml : c.maxLocals = nL) (hown : s.vm.findClass own = some m.cls) (hE : eV s) (hK : va_K D vwCl (arT dA) s) (hN : sK s.heap H)
    (hM : mX l y [Cond.code y bytes maxL ret] rm (pC D dA (.ref b :: As) ws H.size) E (fun st t => va_F (va_A ws H.size) st t ∧ bW D (va_A ws H.size) w1 t) mc ms (va_A ws H.size)) (he : ws[q0]? = some (b, .inr (ci, fs))) (hcl : vwCl[ci]? = some (C, T, N))
    (hc : Cond.code y bytes maxL ret ∈ aW) (hl : Cond.methodLink own index y ∈ aW) (hi : Cond.instanceMethod y ∈ aW) (hse : Cond.selects C y y ∈ aW) (hini : Cond.initialized y.cls ∈ aW) (hrc : rm.cells = mc) (hrs : rm.slots = ms)
    (hd : (y.cls ≠ "java/lang/invoke/MethodHandle" ∧ y.cls ≠ "java/lang/invoke/VarHandle") ∧ (parseMethodDescriptor y.desc).map (fun d => d.parameters.length) = some n) (hR : rm.frames + 1 ≤ R.frames ∧ 8 + (maxL + 11) + rm.locals ≤ R.locals)
    (hn : As.length = n) (hsize : ls.size = nL) (hst : st0 = As.reverse ++ .ref b :: rest) (hW : (rest.map fun v => v.category).sum ≤ 8) (hdg : decode cc pc = .ok (.invokevirtual index, 3)) (hf : cells + mc ≤ R.cells ∧ slots + ms ≤ R.slots)
    (hP : va_P D vwCl ws H) (hD : va_D A ws) (hS : va_S A s.heap H locs) (hA : ∀ q, s.heap.size ≤ q → A q)
    (kk : ∀ (x : Addr) (ce : Cell) (H1 : Heap) (locs1 : List Loc), va_P D vwCl w1 H1 → va_D A w1 → va_S A s.heap H1 locs1 → H1[x]? = some ce → ce.vm = .none → s.vm.findClass E = some ce.cls → wX p l e R s m args below meth c H1 locs1 (cells + mc) (slots + ms) Q (F0 m pc ls rest) x) :
    W p l e R s m args below meth c H locs cells slots Q (F0 m pc ls st0) :=
  xnV hx hb hml hown hE hK hN hP hD hM he hcl hc hl hi hse hini hrc hrs hd hR hn hsize hst hW hdg hf hP hD hS hA (List.range ws.length) [] (wr := []) (rg_map ws) rfl rfl (fun _ h => nomatch h) kk
end XV
