/-! What points met keep of the table; names do not count for rows. -/
def kept (t u : TB) : Prop := u.wi = t.wi ∧ u.rc = t.rc ∧ u.cN = t.cN ∧ u.rs = t.rs
theorem kept_rf (t : TB) : kept t t := ⟨rfl, rfl, rfl, rfl⟩
theorem kept_tr {a b c : TB} (h1 : kept a b) (h2 : kept b c) : kept a c := ⟨h2.1.trans h1.1, h2.2.1.trans h1.2.1, h2.2.2.1.trans h1.2.2.1, h2.2.2.2.trans h1.2.2.2⟩
theorem mm1_k (fn : Int32) (x : VS) (M : MM) (o : Nat) (tm v : Int64) : kept M.1 (mm1 fn x M o tm v).1 := by
  show kept M.1 (mqY fn M.1 (x.pb M) o tm v)
  unfold mqY
  split
  · exact kept_rf _
  · exact ⟨mtT_k.1, mtT_k.2.1, mtT_k.2.2.1, mtT_k.2.2.2.1⟩
theorem mmP_k (fn : Int32) (x : VS) (P : PT) (M : MM) : ∀ i, kept M.1 (mmP fn x P M i).1
  | 0 => kept_rf _
  | i + 1 => by
    have ih := mmP_k fn x P M i
    show kept M.1 (if ¬ x.aro (P.o i) = (-1) ∧ x.sePc P i = true then mm1 fn x (mmP fn x P M i) (P.o i) (P.t i) (P.v i) else mmP fn x P M i).1
    split
    · exact kept_tr ih (mm1_k _ _ _ _ _ _)
    · exact ih
theorem mmK_k (fn : Int32) (x : VS) (PS : Nat → PT) (M : MM) : ∀ k, kept M.1 (mmK fn x PS M k).1
  | 0 => kept_rf _
  | k + 1 => kept_tr (mmK_k fn x PS M k) (mmP_k fn x (PS k) _ _)
theorem mmH_k (fn : Int32) (x : VS) (M : MM) : ∀ i, kept M.1 (mmH fn x M i).1
  | 0 => kept_rf _
  | i + 1 => by
    have ih := mmH_k fn x M i
    show kept M.1 (if ¬ x.aro (x.hO i) = (-1) then mm1 fn x (mmH fn x M i) (x.hO i) (x.hT i) (x.hV i) else mmH fn x M i).1
    split
    · exact kept_tr ih (mm1_k _ _ _ _ _ _)
    · exact ih
theorem mmA_k (fn : Int32) (x : VS) (PS : Nat → PT) (t : TB) : kept t (mmA fn x PS t).1 := kept_tr (mmK_k fn x PS (x.m0 t) x.npc) (mmH_k fn x _ x.hsize)
theorem adT_nm (NL : Nat → List Int32) (t : TB) (RS : Nat → List LB) (S : List LB) (a : Nat) (u : Nat → Option Nat) : adT NL (TB.s_nm t u) RS S a = TB.s_nm (adT NL t RS S a) u := by
  unfold adT
  by_cases c : t.rc = 256 ∨ (plT NL t.nc t.rc RS S < t.rc ∧ cmT NL t.nc (RS (plT NL t.nc t.rc RS S)) S = 0)
  · rw [if_pos c, if_pos (show (TB.s_nm t u).rc = 256 ∨ _ from c)]
  · rw [if_neg c, if_neg (show ¬ ((TB.s_nm t u).rc = 256 ∨ _) from c)]
    rfl
theorem pkG_nm (NL : Nat → List Int32) (n : Nat) (KD : Nat → Int32) (MN MT : Nat → List Int32) (SS : Nat → List LB) (kn : Nat → Option Nat) (t : TB) (RS : Nat → List LB) (ar : Nat → Int32) (bh : Nat → Bool) (u : Nat → Option Nat) : ∀ i, pkG NL n KD MN MT SS kn (TB.s_nm t u, RS, ar, bh) i = (TB.s_nm (pkG NL n KD MN MT SS kn (t, RS, ar, bh) i).1 u, (pkG NL n KD MN MT SS kn (t, RS, ar, bh) i).2)
  | 0 => rfl
  | i + 1 => by
    have ih := pkG_nm NL n KD MN MT SS kn t RS ar bh u i
    cases h : allB n (tkF KD MN MT (SS i)) with
    | true =>
      rw [pk_t h, pk_t h, ih]
      dsimp only
      rw [adT_nm]
      rfl
    | false =>
      rw [pk_f h, pk_f h, ih]
