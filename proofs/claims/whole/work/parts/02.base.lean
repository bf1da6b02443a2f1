/-! Words that go along from a state to a later one. -/
/-- .. words of the tables, and those of static fields where no cell of statics has been written -/
def cw_b : Cond → Bool
  | .fieldLinkNest .. => true
  | .castable .. => true
  | .declares _ => true
  | .arrayOver (.object _) => true
  | .laysStatic .. => true
  | w => goodWord w
def aW : List Cond := lw_tbl.filter cw_b
def zU : Cond := .isRef (.static "java/lang/Throwable" "UNASSIGNED_STACK" "[Ljava/lang/StackTraceElement;")
def zS : Cond := .isRef (.static "java/lang/Throwable" "SUPPRESSED_SENTINEL" "Ljava/util/List;")
def wU : Cond := .laysStatic "java/lang/Throwable" "UNASSIGNED_STACK" "[Ljava/lang/StackTraceElement;"
def wS : Cond := .laysStatic "java/lang/Throwable" "SUPPRESSED_SENTINEL" "Ljava/util/List;"
/-- exceptions that a row of the law's tables passes over: the one thrown, the one that the row names -/
def ncL : List (String × String) := [("java/lang/UnsupportedOperationException", "java/lang/IllegalStateException"), ("java/lang/IndexOutOfBoundsException", "java/lang/IllegalStateException"), ("java/lang/IllegalArgumentException", "java/lang/IllegalStateException"), ("java/lang/IllegalArgumentException", "java/lang/IndexOutOfBoundsException"), ("java/lang/UnsupportedOperationException", "java/lang/IndexOutOfBoundsException"), ("java/lang/UnsupportedOperationException", "java/lang/IllegalArgumentException")]
/-- the surroundings of a call -/
def eV (U : State) : Prop := (∀ w ∈ aW, w.before #[] U = true) ∧ wU.before #[] U = true ∧ wS.before #[] U = true ∧ zU.before #[] U = true ∧ zS.before #[] U = true ∧ ∀ q ∈ ncL, va_Nc q.1 q.2 U
/-- no cell of statics has changed -/
def sK (H0 H : Heap) : Prop := ∀ (q : Nat) (cell : Cell), H0[q]? = some cell → cell.vm.isStatics = true → H[q]? = some cell
theorem cw_tr {s U : State} {c : Cond} (hc : c.onTables = true) (h : c.before #[] (s.setVm U.vm) = true) : c.before #[] U = true := by
  have e := Cond.onTables_vm (A := #[]) (A' := #[]) (U := s) (U' := U) U.vm c hc
  have hU : U.setVm U.vm = U := rfl
  rw [hU] at e
  rw [← e]
  exact h
theorem cw_lays {s U : State} (hW : s.WarmedH U.vm) (hK : sK s.heap U.heap) {C n d : String} (h : (Cond.laysStatic C n d).before #[] s = true) : (Cond.laysStatic C n d).before #[] U = true := by
  obtain ⟨c, k, i, f, a, cell, h1, h2, h3, h4, h5, h6, h7, h8, h9⟩ := Cond.laysStatic_spec h
  obtain ⟨k', hi', he⟩ := State.fieldFound?_setVm hW.alike h2
  show (Cond.laysStatic C n d).holds #[] U none U [] = true
  exact Cond.laysStatic_of (by rw [hW.alike.findClass]; exact h1) hi' h3 (by rw [he]; exact h4) (hK _ _ h5 h6) h6 h7 h8 (by rw [he]; exact h9)
theorem cw_ref {s U : State} (hW : s.WarmedH U.vm) (hK : sK s.heap U.heap) {C n d : String} (hl : (Cond.laysStatic C n d).before #[] s = true) (h : (Cond.isRef (.static C n d)).before #[] s = true) : (Cond.isRef (.static C n d)).before #[] U = true := by
  obtain ⟨c, k, i, f, a, cell, h1, h2, h3, h4, h5, h6, h7, h8, h9⟩ := Cond.laysStatic_spec hl
  obtain ⟨k', hi', he⟩ := State.fieldFound?_setVm hW.alike h2
  have e1 : (Term.static C n d).eval #[] s none [] s = cell.slots[f.slot]? := by simp [Term.eval, State.fieldNamed?, h2, h3, h4, h5, h6]
  have e2 : (Term.static C n d).eval #[] U none [] U = cell.slots[f.slot]? := by
    have h4' : k'.statics = some a := by rw [he]; exact h4
    have hi2 : U.fieldFound? C n d = some (c, k', i, f) := hi'
    simp [Term.eval, State.fieldNamed?, hi2, h3, h4', hK _ _ h5 h6, h6]
  simp only [Cond.before, Cond.holds, Cond.value, e1] at h
  simp only [Cond.before, Cond.holds, Cond.value, e2]
  exact h
theorem cw_go {s U : State} (hW : s.WarmedH U.vm) (hK : sK s.heap U.heap) {w : Cond} (hc : cw_b w = true) (h : w.before #[] s = true) : w.before #[] U = true := by
  cases w with
  | fieldLinkNest a i b n d x => exact va_Nw.warmF hW h
  | castable C T => exact cw_tr (s := s) rfl (by rw [Cond.castable_setVm hW.alike]; exact h)
  | declares x => exact cw_tr (s := s) rfl (by rw [Cond.declares_setVm hW.alike]; exact h)
  | laysStatic C n d => exact cw_lays hW hK h
  | arrayOver ty =>
    cases ty with
    | object C => exact va_AO.moved hW.alike h
    | _ => exact word_at hW (good_of_word hc) h
  | _ => exact word_at hW (good_of_word hc) h
theorem eV.go {s U : State} (hE : eV s) (hW : s.WarmedH U.vm) (hK : sK s.heap U.heap) : eV U :=
  ⟨fun w hw => cw_go hW hK (List.mem_filter.mp hw).2 (hE.1 w hw), cw_lays hW hK hE.2.1, cw_lays hW hK hE.2.2.1, cw_ref hW hK hE.2.1 hE.2.2.2.1, cw_ref hW hK hE.2.2.1 hE.2.2.2.2.1, fun q hq => (hE.2.2.2.2.2 q hq).moved hW.alike⟩
theorem sK.rf {H : Heap} : sK H H := fun _ _ h _ => h
theorem eV.t {s : State} {args : Array Value} {w : Cond} (hE : eV s) (hm : w ∈ aW) (ht : w.onTables = true) : w.before args s = true := va_tabs ht rfl (hE.1 w hm)
theorem eV.a {s : State} {args : Array Value} {ty : FieldType} (hE : eV s) (hm : Cond.arrayClass ty ∈ aW) : (Cond.arrayClass ty).before args s = true := hE.1 _ hm
theorem aw_of {w : Cond} (h : w ∈ tables_1) (hc : cw_b w = true) : w ∈ aW := List.mem_filter.mpr ⟨List.mem_append_right _ h, hc⟩
theorem aw_pr {w : Cond} (h : w ∈ k2_sels lw_privs) (hc : cw_b w = true) : w ∈ aW := List.mem_filter.mpr ⟨List.mem_append_left _ h, hc⟩
theorem tb_1 {w : Cond} (h : w ∈ tables_1_1) : w ∈ tables_1 := List.mem_append_left _ h
theorem tb_2 {w : Cond} (h : w ∈ tables_1_2) : w ∈ tables_1 := List.mem_append_right _ (List.mem_append_left _ h)
theorem tb_3 {w : Cond} (h : w ∈ tables_1_3) : w ∈ tables_1 := List.mem_append_right _ (List.mem_append_right _ (List.mem_append_left _ h))
theorem tb_4 {w : Cond} (h : w ∈ tables_1_4) : w ∈ tables_1 := List.mem_append_right _ (List.mem_append_right _ (List.mem_append_right _ (List.mem_append_left _ h)))
theorem tb_5 {w : Cond} (h : w ∈ tables_1_5) : w ∈ tables_1 := List.mem_append_right _ (List.mem_append_right _ (List.mem_append_right _ (List.mem_append_right _ (List.mem_append_left _ h))))
theorem tb_6 {w : Cond} (h : w ∈ tables_1_6) : w ∈ tables_1 := List.mem_append_right _ (List.mem_append_right _ (List.mem_append_right _ (List.mem_append_right _ (List.mem_append_right _ (List.mem_append_left _ h)))))
theorem tb_7 {w : Cond} (h : w ∈ tables_1_7) : w ∈ tables_1 := List.mem_append_right _ (List.mem_append_right _ (List.mem_append_right _ (List.mem_append_right _ (List.mem_append_right _ (List.mem_append_right _ (List.mem_append_left _ h))))))
theorem tb_8 {w : Cond} (h : w ∈ tables_1_8) : w ∈ tables_1 := List.mem_append_right _ (List.mem_append_right _ (List.mem_append_right _ (List.mem_append_right _ (List.mem_append_right _ (List.mem_append_right _ (List.mem_append_right _ (List.mem_append_left _ h)))))))
theorem tb_9 {w : Cond} (h : w ∈ tables_1_9) : w ∈ tables_1 := List.mem_append_right _ (List.mem_append_right _ (List.mem_append_right _ (List.mem_append_right _ (List.mem_append_right _ (List.mem_append_right _ (List.mem_append_right _ (List.mem_append_right _ (List.mem_append_left _ h))))))))
theorem tb_10 {w : Cond} (h : w ∈ tables_1_10) : w ∈ tables_1 := List.mem_append_right _ (List.mem_append_right _ (List.mem_append_right _ (List.mem_append_right _ (List.mem_append_right _ (List.mem_append_right _ (List.mem_append_right _ (List.mem_append_right _ (List.mem_append_right _ (List.mem_append_left _ h)))))))))
theorem tb_11 {w : Cond} (h : w ∈ tables_1_11) : w ∈ tables_1 := List.mem_append_right _ (List.mem_append_right _ (List.mem_append_right _ (List.mem_append_right _ (List.mem_append_right _ (List.mem_append_right _ (List.mem_append_right _ (List.mem_append_right _ (List.mem_append_right _ (List.mem_append_right _ h)))))))))
/-- the cells of a world, and those that come later, are none of statics -/
theorem ns_A {D : va_G} {cl : List vw_C} {ws : va_W} {H : Heap} (hP : va_P D cl ws H) {q : Nat} {cell : Cell} (hq : va_A ws H.size q) (hc : H[q]? = some cell) : cell.vm.isStatics = false := by
  rcases hq with ⟨k, e, h⟩ | h
  · have h1 := hP k _ h
    cases e with
    | inl x =>
      have h2 : H[q]? = some (vp_cell x.1 x.2) := h1
      rw [hc] at h2
      cases h2
      obtain ⟨c, n, f | f | f | f | f⟩ := x <;> rfl
    | inr o =>
      obtain ⟨r, -, cell2, g1, g2, g3, -⟩ := h1
      rw [hc] at g1
      cases g1
      rw [g3]; rfl
  · have := (Array.getElem?_eq_some_iff.mp hc).1
    omega
theorem sK_of {D : va_G} {cl : List vw_C} {ws : va_W} {H0 H : Heap} {locs : List Loc} (hP : va_P D cl ws H0) (hS : va_S (va_A ws H0.size) H0 H locs) : sK H0 H := by
  intro q cell hc hs
  by_cases hq : va_A ws H0.size q
  · have := ns_A hP hq hc
    rw [hs] at this
    cases this
  · rw [hS.2.1 q (Array.getElem?_eq_some_iff.mp hc).1 hq]
    exact hc
