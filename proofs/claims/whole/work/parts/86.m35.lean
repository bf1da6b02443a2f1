def MS.sk (x : MS) : Nat := skG x.tape x.length (x.length + 1 - x.too) x.too
def MS.nu (x : MS) (d : Nat) : Nat × Bool × Int64 := numG x.tape x.length (x.length + 1 - d) d true 0
def MS.tx (x : MS) (d : Nat) : Nat := txG x.tape x.length (x.length + 1 - (d + 1)) (d + 1)
def MS.idE (x : MS) (d : Nat) : Nat := idG x.tape x.length (x.length + 1 - d) d
def MS.tw (x : MS) (d : Nat) : Nat := sgTwo (x.atN d) (x.atN (d + 1))
/-- a token read, it begins at d -/
def MS.nxD (x : MS) (d : Nat) : Bool × MS :=
  if x.length ≤ d then (true, MS.s_too (MS.s_frm (MS.s_kind x 0) d) d)
  else if isDg (x.atN d) = true then (if (x.nu d).2.1 = true then (true, MS.s_amount (MS.s_too (MS.s_frm (MS.s_kind x 1) d) (x.nu d).1) (x.nu d).2.2) else (false, MS.s_amount (MS.s_too (MS.s_frm (MS.s_kind (MS.s_faultPlace (MS.s_faultCode x 1) (nI d)) 1) d) (x.nu d).1) (x.nu d).2.2))
  else if isLt (x.atN d) = true then (true, MS.s_too (MS.s_frm (MS.s_kind x 2) d) (x.idE d))
  else if x.atN d = 34 then (if x.atN (x.tx d) = 34 then (true, MS.s_too (MS.s_frm (MS.s_kind x 3) d) (x.tx d + 1)) else (false, MS.s_too (MS.s_frm (MS.s_kind (MS.s_faultPlace (MS.s_faultCode x 1) (nI d)) 3) d) (x.tx d)))
  else if x.tw d = 0 then (if sgOne (x.atN d) = true then (true, MS.s_too (MS.s_frm (MS.s_kind x (x.atN d)) d) (d + 1)) else (false, MS.s_too (MS.s_frm (MS.s_faultPlace (MS.s_faultCode x 1) (nI d)) d) d))
  else (true, MS.s_too (MS.s_frm (MS.s_kind x (nI (x.tw d))) d) (d + 2))
def MS.nx (x : MS) : Bool × MS := x.nxD x.sk
theorem sgTwo_le (a b : Int32) : sgTwo a b ≤ 258 := by
  unfold sgTwo
  repeat' split
  all_goals decide
theorem nx_e {x : MS} {d : Nat} (h : x.length ≤ d) : x.nxD d = (true, MS.s_too (MS.s_frm (MS.s_kind x 0) d) d) := if_pos h
theorem nx_n {x : MS} {d b : Nat} {k : Int64} (h : ¬ x.length ≤ d) (h1 : isDg (x.atN d) = true) (h2 : x.nu d = (b, true, k)) : x.nxD d = (true, MS.s_amount (MS.s_too (MS.s_frm (MS.s_kind x 1) d) b) k) := by
  unfold MS.nxD
  rw [if_neg h, if_pos h1, h2]
  rfl
theorem nx_nx {x : MS} {d b : Nat} {k : Int64} (h : ¬ x.length ≤ d) (h1 : isDg (x.atN d) = true) (h2 : x.nu d = (b, false, k)) : x.nxD d = (false, MS.s_amount (MS.s_too (MS.s_frm (MS.s_kind (MS.s_faultPlace (MS.s_faultCode x 1) (nI d)) 1) d) b) k) := by
  unfold MS.nxD
  rw [if_neg h, if_pos h1, h2]
  rfl
theorem nx_i {x : MS} {d : Nat} (h : ¬ x.length ≤ d) (h1 : isDg (x.atN d) = false) (h2 : isLt (x.atN d) = true) : x.nxD d = (true, MS.s_too (MS.s_frm (MS.s_kind x 2) d) (x.idE d)) := by
  unfold MS.nxD
  rw [if_neg h, if_neg (by rw [h1]; decide), if_pos h2]
theorem nx_t {x : MS} {d : Nat} (h : ¬ x.length ≤ d) (h1 : isDg (x.atN d) = false) (h2 : isLt (x.atN d) = false) (h3 : x.atN d = 34) (h4 : x.atN (x.tx d) = 34) : x.nxD d = (true, MS.s_too (MS.s_frm (MS.s_kind x 3) d) (x.tx d + 1)) := by
  unfold MS.nxD
  rw [if_neg h, if_neg (by rw [h1]; decide), if_neg (by rw [h2]; decide), if_pos h3, if_pos h4]
theorem nx_tx {x : MS} {d : Nat} (h : ¬ x.length ≤ d) (h1 : isDg (x.atN d) = false) (h2 : isLt (x.atN d) = false) (h3 : x.atN d = 34) (h4 : ¬ x.atN (x.tx d) = 34) : x.nxD d = (false, MS.s_too (MS.s_frm (MS.s_kind (MS.s_faultPlace (MS.s_faultCode x 1) (nI d)) 3) d) (x.tx d)) := by
  unfold MS.nxD
  rw [if_neg h, if_neg (by rw [h1]; decide), if_neg (by rw [h2]; decide), if_pos h3, if_neg h4]
theorem nx_sx {x : MS} {d : Nat} (h : ¬ x.length ≤ d) (h1 : isDg (x.atN d) = false) (h2 : isLt (x.atN d) = false) (h3 : ¬ x.atN d = 34) (h4 : x.tw d = 0) (h5 : sgOne (x.atN d) = false) : x.nxD d = (false, MS.s_too (MS.s_frm (MS.s_faultPlace (MS.s_faultCode x 1) (nI d)) d) d) := by
  unfold MS.nxD
  rw [if_neg h, if_neg (by rw [h1]; decide), if_neg (by rw [h2]; decide), if_neg h3, if_pos h4, if_neg (by rw [h5]; decide)]
theorem nx_s1 {x : MS} {d : Nat} (h : ¬ x.length ≤ d) (h1 : isDg (x.atN d) = false) (h2 : isLt (x.atN d) = false) (h3 : ¬ x.atN d = 34) (h4 : x.tw d = 0) (h5 : sgOne (x.atN d) = true) : x.nxD d = (true, MS.s_too (MS.s_frm (MS.s_kind x (x.atN d)) d) (d + 1)) := by
  unfold MS.nxD
  rw [if_neg h, if_neg (by rw [h1]; decide), if_neg (by rw [h2]; decide), if_neg h3, if_pos h4, if_pos h5]
theorem nx_s2 {x : MS} {d : Nat} (h : ¬ x.length ≤ d) (h1 : isDg (x.atN d) = false) (h2 : isLt (x.atN d) = false) (h3 : ¬ x.atN d = 34) (h4 : ¬ x.tw d = 0) : x.nxD d = (true, MS.s_too (MS.s_frm (MS.s_kind x (nI (x.tw d))) d) (d + 2)) := by
  unfold MS.nxD
  rw [if_neg h, if_neg (by rw [h1]; decide), if_neg (by rw [h2]; decide), if_neg h3, if_neg h4]
set_option maxHeartbeats 4000000 in
set_option maxRecDepth 100000 in
theorem k_next (l : Launch) (D : va_G) (dA : Nat → ClassId) (sz : Nat) (h : Nat) (ad : Nat → Nat) (x : MS) (hl1 : x.length ≤ 65536) (ht : x.too ≤ x.length) (hf : x.faultCode = 0) : Met l ⟨"SeriesVaultModel", "next", "()Z"⟩ [Cond.code ⟨"SeriesVaultModel", "next", "()Z"⟩ prog_14_method_57_code 2 (some FieldType.boolean)] { frames := 3, cells := 0, slots := 0, locals := 46 } (pC D dA [.ref h] (MW dA h ad x) sz) (va_Qi (fun (r9 : Int32) (u9 : MS) => r9 = bI (x.nx).1 ∧ u9 = (x.nx).2) (fun (u9 : MS) t9 => bW D (va_A (MW dA h ad x) sz) (MW dA h ad u9) t9) (va_A (MW dA h ad x) sz)) 0 0 (va_A (MW dA h ad x) sz) := by
  have hd : x.sk ≤ x.length := skG_le ht
  by_cases g0 : x.length ≤ x.sk
  · exact metI (k_next_e l D dA sz h ad x x.sk hl1 ht rfl g0) (fun r9 u9 hu => ⟨x.nx.2, ⟨by rw [hu, show x.nx = _ from (nx_e g0)], rfl⟩, by show MW dA h ad _ = MW dA h ad x.nx.2; rw [show x.nx = _ from (nx_e g0)] <;> rfl⟩)
  have g1 : x.sk < x.length := Nat.lt_of_not_le g0
  cases c1 : isDg (x.atN x.sk) with
  | true =>
    obtain ⟨b, v, k, hv⟩ : ∃ b v k, x.nu x.sk = (b, v, k) := ⟨_, _, _, rfl⟩
    cases v with
    | true =>
      exact metI (k_next_n l D dA sz h ad x x.sk b k hl1 ht rfl g1 c1 hv) (fun r9 u9 hu => ⟨x.nx.2, ⟨by rw [hu.1, show x.nx = _ from (nx_n g0 c1 hv)], rfl⟩, by show MW dA h ad u9 = MW dA h ad x.nx.2; rw [hu.2, show x.nx = _ from (nx_n g0 c1 hv)] <;> rfl⟩)
    | false =>
      exact metI (k_next_nx l D dA sz h ad x x.sk b k hl1 ht rfl g1 c1 hv hf) (fun r9 u9 hu => ⟨x.nx.2, ⟨by rw [hu.1, show x.nx = _ from (nx_nx g0 c1 hv)], rfl⟩, by show MW dA h ad u9 = MW dA h ad x.nx.2; rw [hu.2, show x.nx = _ from (nx_nx g0 c1 hv)] <;> rfl⟩)
  | false =>
    cases c2 : isLt (x.atN x.sk) with
    | true =>
      exact metI (k_next_i l D dA sz h ad x x.sk (x.idE x.sk) hl1 ht rfl g1 c1 c2 rfl) (fun r9 u9 hu => ⟨x.nx.2, ⟨by rw [hu, show x.nx = _ from (nx_i g0 c1 c2)], rfl⟩, by show MW dA h ad _ = MW dA h ad x.nx.2; rw [show x.nx = _ from (nx_i g0 c1 c2)] <;> rfl⟩)
    | false =>
      by_cases c3 : x.atN x.sk = 34
      · by_cases c4 : x.atN (x.tx x.sk) = 34
        · exact metI (k_next_t l D dA sz h ad x x.sk (x.tx x.sk) hl1 ht rfl g1 c1 c2 c3 rfl c4) (fun r9 u9 hu => ⟨x.nx.2, ⟨by rw [hu, show x.nx = _ from (nx_t g0 c1 c2 c3 c4)], rfl⟩, by show MW dA h ad _ = MW dA h ad x.nx.2; rw [show x.nx = _ from (nx_t g0 c1 c2 c3 c4)] <;> rfl⟩)
        · exact metI (k_next_tx l D dA sz h ad x x.sk (x.tx x.sk) hl1 ht rfl g1 c1 c2 c3 rfl c4 hf) (fun r9 u9 hu => ⟨x.nx.2, ⟨by rw [hu, show x.nx = _ from (nx_tx g0 c1 c2 c3 c4)], rfl⟩, by show MW dA h ad _ = MW dA h ad x.nx.2; rw [show x.nx = _ from (nx_tx g0 c1 c2 c3 c4)] <;> rfl⟩)
      · by_cases c4 : x.tw x.sk = 0
        · cases c5 : sgOne (x.atN x.sk) with
          | true => exact metI (k_next_s1 l D dA sz h ad x x.sk hl1 ht rfl g1 c1 c2 c3 c4 c5) (fun r9 u9 hu => ⟨x.nx.2, ⟨by rw [hu, show x.nx = _ from (nx_s1 g0 c1 c2 c3 c4 c5)], rfl⟩, by show MW dA h ad _ = MW dA h ad x.nx.2; rw [show x.nx = _ from (nx_s1 g0 c1 c2 c3 c4 c5)] <;> rfl⟩)
          | false => exact metI (k_next_sx l D dA sz h ad x x.sk hl1 ht rfl g1 c1 c2 c3 c4 c5 hf) (fun r9 u9 hu => ⟨x.nx.2, ⟨by rw [hu, show x.nx = _ from (nx_sx g0 c1 c2 c3 c4 c5)], rfl⟩, by show MW dA h ad _ = MW dA h ad x.nx.2; rw [show x.nx = _ from (nx_sx g0 c1 c2 c3 c4 c5)] <;> rfl⟩)
        · exact metI (k_next_s2 l D dA sz h ad x x.sk (x.tw x.sk) hl1 ht rfl g1 c1 c2 c3 rfl (Nat.pos_of_ne_zero c4) (sgTwo_le _ _)) (fun r9 u9 hu => ⟨x.nx.2, ⟨by rw [hu, show x.nx = _ from (nx_s2 g0 c1 c2 c3 c4)], rfl⟩, by show MW dA h ad _ = MW dA h ad x.nx.2; rw [show x.nx = _ from (nx_s2 g0 c1 c2 c3 c4)] <;> rfl⟩)
