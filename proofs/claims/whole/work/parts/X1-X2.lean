section
theorem d_SeriesVaultLaw_law_156 : decode code 156 = .ok (.aload_n 1, 1) := by decide +kernel
theorem d_SeriesVaultLaw_law_157 : decode code 157 = .ok (.aload_n 0, 1) := by decide +kernel
theorem d_SeriesVaultLaw_law_158 : decode code 158 = .ok (.iload 4, 2) := by decide +kernel
theorem d_SeriesVaultLaw_law_160 : decode code 160 = .ok (.iconst 1, 1) := by decide +kernel
theorem d_SeriesVaultLaw_law_161 : decode code 161 = .ok (.iadd, 1) := by decide +kernel
theorem d_SeriesVaultLaw_law_162 : decode code 162 = .ok (.iaload, 1) := by decide +kernel
theorem d_SeriesVaultLaw_law_163 : decode code 163 = .ok (.aload_n 0, 1) := by decide +kernel
theorem d_SeriesVaultLaw_law_164 : decode code 164 = .ok (.iload 4, 2) := by decide +kernel
theorem d_SeriesVaultLaw_law_166 : decode code 166 = .ok (.iconst 2, 1) := by decide +kernel
theorem d_SeriesVaultLaw_law_167 : decode code 167 = .ok (.iadd, 1) := by decide +kernel
theorem d_SeriesVaultLaw_law_168 : decode code 168 = .ok (.iaload, 1) := by decide +kernel
theorem d_SeriesVaultLaw_law_169 : decode code 169 = .ok (.aload_n 0, 1) := by decide +kernel
theorem d_SeriesVaultLaw_law_170 : decode code 170 = .ok (.iload 4, 2) := by decide +kernel
theorem d_SeriesVaultLaw_law_172 : decode code 172 = .ok (.iconst 3, 1) := by decide +kernel
theorem d_SeriesVaultLaw_law_173 : decode code 173 = .ok (.iadd, 1) := by decide +kernel
theorem d_SeriesVaultLaw_law_174 : decode code 174 = .ok (.iaload, 1) := by decide +kernel
theorem d_SeriesVaultLaw_law_175 : decode code 175 = .ok (.aload_n 0, 1) := by decide +kernel
theorem d_SeriesVaultLaw_law_176 : decode code 176 = .ok (.iload 4, 2) := by decide +kernel
theorem d_SeriesVaultLaw_law_178 : decode code 178 = .ok (.iconst 4, 1) := by decide +kernel
theorem d_SeriesVaultLaw_law_179 : decode code 179 = .ok (.iadd, 1) := by decide +kernel
theorem d_SeriesVaultLaw_law_180 : decode code 180 = .ok (.iaload, 1) := by decide +kernel
theorem d_SeriesVaultLaw_law_181 : decode code 181 = .ok (.aload_n 0, 1) := by decide +kernel
theorem d_SeriesVaultLaw_law_182 : decode code 182 = .ok (.iload 4, 2) := by decide +kernel
theorem d_SeriesVaultLaw_law_184 : decode code 184 = .ok (.iconst 5, 1) := by decide +kernel
theorem d_SeriesVaultLaw_law_185 : decode code 185 = .ok (.iadd, 1) := by decide +kernel
theorem d_SeriesVaultLaw_law_186 : decode code 186 = .ok (.iaload, 1) := by decide +kernel
theorem d_SeriesVaultLaw_law_187 : decode code 187 = .ok (.aload_n 3, 1) := by decide +kernel
theorem d_SeriesVaultLaw_law_188 : decode code 188 = .ok (.invokestatic 104, 3) := by decide +kernel
theorem d_SeriesVaultLaw_law_191 : decode code 191 = .ok (.istore 5, 2) := by decide +kernel
theorem d_SeriesVaultLaw_law_193 : decode code 193 = .ok (.aload_n 2, 1) := by decide +kernel
theorem d_SeriesVaultLaw_law_194 : decode code 194 = .ok (.aload_n 0, 1) := by decide +kernel
theorem d_SeriesVaultLaw_law_195 : decode code 195 = .ok (.iload 4, 2) := by decide +kernel
theorem d_SeriesVaultLaw_law_197 : decode code 197 = .ok (.iconst 1, 1) := by decide +kernel
theorem d_SeriesVaultLaw_law_198 : decode code 198 = .ok (.iadd, 1) := by decide +kernel
theorem d_SeriesVaultLaw_law_199 : decode code 199 = .ok (.iaload, 1) := by decide +kernel
theorem d_SeriesVaultLaw_law_200 : decode code 200 = .ok (.aload_n 0, 1) := by decide +kernel
theorem d_SeriesVaultLaw_law_201 : decode code 201 = .ok (.iload 4, 2) := by decide +kernel
theorem d_SeriesVaultLaw_law_203 : decode code 203 = .ok (.iconst 2, 1) := by decide +kernel
theorem d_SeriesVaultLaw_law_204 : decode code 204 = .ok (.iadd, 1) := by decide +kernel
theorem d_SeriesVaultLaw_law_205 : decode code 205 = .ok (.iaload, 1) := by decide +kernel
theorem d_SeriesVaultLaw_law_206 : decode code 206 = .ok (.aload_n 0, 1) := by decide +kernel
theorem d_SeriesVaultLaw_law_207 : decode code 207 = .ok (.iload 4, 2) := by decide +kernel
theorem d_SeriesVaultLaw_law_209 : decode code 209 = .ok (.iconst 3, 1) := by decide +kernel
theorem d_SeriesVaultLaw_law_210 : decode code 210 = .ok (.iadd, 1) := by decide +kernel
theorem d_SeriesVaultLaw_law_211 : decode code 211 = .ok (.iaload, 1) := by decide +kernel
theorem d_SeriesVaultLaw_law_212 : decode code 212 = .ok (.aload_n 0, 1) := by decide +kernel
theorem d_SeriesVaultLaw_law_213 : decode code 213 = .ok (.iload 4, 2) := by decide +kernel
theorem d_SeriesVaultLaw_law_215 : decode code 215 = .ok (.iconst 4, 1) := by decide +kernel
theorem d_SeriesVaultLaw_law_216 : decode code 216 = .ok (.iadd, 1) := by decide +kernel
theorem d_SeriesVaultLaw_law_217 : decode code 217 = .ok (.iaload, 1) := by decide +kernel
theorem d_SeriesVaultLaw_law_218 : decode code 218 = .ok (.aload_n 0, 1) := by decide +kernel
theorem d_SeriesVaultLaw_law_219 : decode code 219 = .ok (.iload 4, 2) := by decide +kernel
theorem d_SeriesVaultLaw_law_221 : decode code 221 = .ok (.iconst 5, 1) := by decide +kernel
theorem d_SeriesVaultLaw_law_222 : decode code 222 = .ok (.iadd, 1) := by decide +kernel
theorem d_SeriesVaultLaw_law_223 : decode code 223 = .ok (.iaload, 1) := by decide +kernel
theorem d_SeriesVaultLaw_law_224 : decode code 224 = .ok (.invokevirtual 109, 3) := by decide +kernel
theorem d_SeriesVaultLaw_law_227 : decode code 227 = .ok (.istore 6, 2) := by decide +kernel
theorem d_SeriesVaultLaw_law_229 : decode code 229 = .ok (.aload_n 2, 1) := by decide +kernel
theorem d_SeriesVaultLaw_law_230 : decode code 230 = .ok (.invokevirtual 110, 3) := by decide +kernel
theorem d_SeriesVaultLaw_law_233 : decode code 233 = .ok (.iload 5, 2) := by decide +kernel
theorem d_SeriesVaultLaw_law_235 : decode code 235 = .ok (.if_icmp .eq 5, 3) := by decide +kernel
theorem d_SeriesVaultLaw_law_240 : decode code 240 = .ok (.iload 5, 2) := by decide +kernel
theorem d_SeriesVaultLaw_law_242 : decode code 242 = .ok (.ifCond .ne 15, 3) := by decide +kernel
theorem d_SeriesVaultLaw_law_245 : decode code 245 = .ok (.aload_n 3, 1) := by decide +kernel
theorem d_SeriesVaultLaw_law_246 : decode code 246 = .ok (.iconst 0, 1) := by decide +kernel
theorem d_SeriesVaultLaw_law_247 : decode code 247 = .ok (.laload, 1) := by decide +kernel
theorem d_SeriesVaultLaw_law_248 : decode code 248 = .ok (.iload 6, 2) := by decide +kernel
theorem d_SeriesVaultLaw_law_250 : decode code 250 = .ok (.i2l, 1) := by decide +kernel
theorem d_SeriesVaultLaw_law_251 : decode code 251 = .ok (.lcmp, 1) := by decide +kernel
theorem d_SeriesVaultLaw_law_252 : decode code 252 = .ok (.ifCond .eq 5, 3) := by decide +kernel
theorem d_SeriesVaultLaw_law_257 : decode code 257 = .ok (.goto 1513, 3) := by decide +kernel
theorem d_SeriesVaultLaw_law_1770 : decode code 1770 = .ok (.iinc 4 6, 3) := by decide +kernel
theorem d_SeriesVaultLaw_law_1773 : decode code 1773 = .ok (.goto (-1750), 3) := by decide +kernel
theorem w1792 : Cond.methodLink "SeriesVaultLaw" 104 ⟨"SeriesVaultLaw", "feed", "(LSeriesVault;IIIII[J)I"⟩ ∈ aW := aw_of (tb_3 (List.mem_of_getElem? (i := 46) rfl)) rfl
theorem w1793 : Cond.initialized "SeriesVaultLaw" ∈ aW := aw_of (tb_1 (List.mem_of_getElem? (i := 0) rfl)) rfl
theorem w1794 : Cond.codeWith ⟨"SeriesVaultLaw", "feed", "(LSeriesVault;IIIII[J)I"⟩ method_3_code 8 (some FieldType.int) [(0, 16, 19, 13)] ∈ aW := aw_of (tb_3 (List.mem_of_getElem? (i := 48) rfl)) rfl
theorem w1795 : Cond.static ⟨"SeriesVaultLaw", "feed", "(LSeriesVault;IIIII[J)I"⟩ ∈ aW := aw_of (tb_3 (List.mem_of_getElem? (i := 47) rfl)) rfl
theorem w1796 : Cond.methodLink "SeriesVaultLaw" 109 ⟨"SeriesVaultModel", "feed", "(IIIII)I"⟩ ∈ aW := aw_of (tb_9 (List.mem_of_getElem? (i := 176) rfl)) rfl
theorem w1797 : Cond.code ⟨"SeriesVaultModel", "feed", "(IIIII)I"⟩ prog_14_method_3_code 8 (some FieldType.int) ∈ aW := aw_of (tb_9 (List.mem_of_getElem? (i := 179) rfl)) rfl
theorem w1798 : Cond.instanceMethod ⟨"SeriesVaultModel", "feed", "(IIIII)I"⟩ ∈ aW := aw_of (tb_9 (List.mem_of_getElem? (i := 177) rfl)) rfl
theorem w1799 : Cond.selects "SeriesVaultModel" ⟨"SeriesVaultModel", "feed", "(IIIII)I"⟩ ⟨"SeriesVaultModel", "feed", "(IIIII)I"⟩ ∈ aW := aw_of (tb_9 (List.mem_of_getElem? (i := 178) rfl)) rfl
theorem w1800 : Cond.methodLink "SeriesVaultLaw" 110 ⟨"SeriesVaultModel", "thrown", "()I"⟩ ∈ aW := aw_of (tb_9 (List.mem_of_getElem? (i := 172) rfl)) rfl
theorem w1801 : Cond.code ⟨"SeriesVaultModel", "thrown", "()I"⟩ prog_14_method_2_code 1 (some FieldType.int) ∈ aW := aw_of (tb_9 (List.mem_of_getElem? (i := 175) rfl)) rfl
theorem w1802 : Cond.instanceMethod ⟨"SeriesVaultModel", "thrown", "()I"⟩ ∈ aW := aw_of (tb_9 (List.mem_of_getElem? (i := 173) rfl)) rfl
theorem w1803 : Cond.selects "SeriesVaultModel" ⟨"SeriesVaultModel", "thrown", "()I"⟩ ⟨"SeriesVaultModel", "thrown", "()I"⟩ ∈ aW := aw_of (tb_9 (List.mem_of_getElem? (i := 174) rfl)) rfl
set_option maxHeartbeats 4000000 in
set_option maxRecDepth 100000 in
theorem l9_0 {p : Program} {e : Env} {s : State} {m : MethodId} {below : List Frame} {meth : Method} {c : Code} (l : Launch) {b L : Nat} {xs : Nat → Int32} {D : va_G} {dA : Nat → ClassId} {e0 : Nat} {A : Nat → Prop} {H : Heap} {locs : List Loc} {ls : Array Slot} (hC : lS p l s m meth c b L xs D dA e0 A) {h : Nat} {ad : Nat → Nat} {x : VS} {mm : Nat} {mad : Nat → Nat} {M M1 : MS} {o : Nat} {og : Nat → Int64} {i fr1 lo1 fr2 lo2 mc9 ms9 cells slots : Nat} {F9 : VS → Prop} {b9 : Int32} {v9 : Int64} (hi : i + 6 ≤ L) (hL : L ≤ 3072) (hfr : fr1 ≤ 2000 ∧ lo1 ≤ 80000 ∧ fr2 ≤ 2000 ∧ lo2 ≤ 80000) (hrm : cells + mc9 ≤ 601024 ∧ slots + ms9 ≤ 7293034) (hcod : M1.cod = 0) (hv : v9 = b9.toInt64) (hW : ∀ sz : Nat, Met l ⟨"SeriesVaultLaw", "feed", "(LSeriesVault;IIIII[J)I"⟩ [Cond.codeWith ⟨"SeriesVaultLaw", "feed", "(LSeriesVault;IIIII[J)I"⟩ method_3_code 8 (some FieldType.int) [(0, 16, 19, 13)]] { frames := fr1, cells := mc9, slots := ms9, locals := lo1 } (pC D dA [.ref h, .int (xs (i + 1)), .int (xs (i + 2)), .int (xs (i + 3)), .int (xs (i + 4)), .int (xs (i + 5)), .ref o] (([(o, .inl (dA 2, 1, .inr (.inl og)))] : va_W) ++ (VW dA h ad x)) sz) (va_Qi (fun (r9 : Int32) (u9 : VS) => r9 = 0 ∧ F9 u9) (fun (u9 : VS) t9 => bW D (va_A (([(o, .inl (dA 2, 1, .inr (.inl og)))] : va_W) ++ (VW dA h ad x)) sz) (([(o, .inl (dA 2, 1, .inr (.inl (va_up og 0 v9))))] : va_W) ++ (VW dA h ad u9)) t9) (va_A (([(o, .inl (dA 2, 1, .inr (.inl og)))] : va_W) ++ (VW dA h ad x)) sz)) mc9 ms9 (va_A (([(o, .inl (dA 2, 1, .inr (.inl og)))] : va_W) ++ (VW dA h ad x)) sz)) (hM : ∀ sz : Nat, Met l ⟨"SeriesVaultModel", "feed", "(IIIII)I"⟩ [Cond.code ⟨"SeriesVaultModel", "feed", "(IIIII)I"⟩ prog_14_method_3_code 8 (some FieldType.int)] { frames := fr2, cells := 0, slots := 0, locals := lo2 } (pC D dA [.ref mm, .int (xs (i + 1)), .int (xs (i + 2)), .int (xs (i + 3)), .int (xs (i + 4)), .int (xs (i + 5))] (MW dA mm mad M) sz) (va_Qi (fun (r9 : Int32) (u9 : Unit) => r9 = b9) (fun (u9 : Unit) t9 => bW D (va_A (MW dA mm mad M) sz) (MW dA mm mad M1) t9) (va_A (MW dA mm mad M) sz)) 0 0 (va_A (MW dA mm mad M) sz)) (hP : va_P D vwCl (MW dA mm mad M ++ (([(o, .inl (dA 2, 1, .inr (.inl og)))] : va_W) ++ (VW dA h ad x))) H) (hD : va_D A (MW dA mm mad M ++ (([(o, .inl (dA 2, 1, .inr (.inl og)))] : va_W) ++ (VW dA h ad x)))) (hS : va_S A s.heap H locs) (hl : lv_has ls 8 [(4, .int (nI i)), (3, .ref o), (2, .ref mm), (1, .ref h), (0, .ref b)]) (cont : ∀ (u : VS) (H1 : Heap) (locs1 : List Loc) (ls1 : Array Slot), F9 u → va_P D vwCl (MW dA mm mad M1 ++ (([(o, .inl (dA 2, 1, .inr (.inl (va_up og 0 v9))))] : va_W) ++ (VW dA h ad u))) H1 → va_D A (MW dA mm mad M1 ++ (([(o, .inl (dA 2, 1, .inr (.inl (va_up og 0 v9))))] : va_W) ++ (VW dA h ad u))) → va_S A s.heap H1 locs1 → lv_has ls1 8 [(4, .int (nI (i + 6))), (3, .ref o), (2, .ref mm), (1, .ref h), (0, .ref b)] → W p l e room_1 s m #[Value.ref b] below meth c H1 locs1 (cells + mc9 + 0 + 0) (slots + ms9 + 0 + 0) (lw_Z below #[Value.ref b] s) (F0 m 23 ls1 [])) : W p l e room_1 s m #[Value.ref b] below meth c H locs cells slots (lw_Z below #[Value.ref b] s) (F0 m 156 ls []) := by
  have hC0 := hC
  obtain ⟨hx, hb, hr, hml, hown, hlk, hE, hK, hA, hN, hZ, hT, hX, hbl, hbA, hnew, htr⟩ := hC
  refine lv_aload_n hx hb d_SeriesVaultLaw_law_156 rfl (lv_at hl 3 rfl) ?_
  refine lv_aload_n hx hb d_SeriesVaultLaw_law_157 rfl (lv_at hl 4 rfl) ?_
  refine lv_iload hx hb d_SeriesVaultLaw_law_158 (lv_at hl 0 rfl) ?_
  refine lv_iconst (v := 1) hx hb d_SeriesVaultLaw_law_160 (by decide) ?_
  refine lv_iadd hx hb d_SeriesVaultLaw_law_161 (tpi (y := nI (i + 1)) (nI_add (i) (1)) ?_)
  refine sldN hx hb hX hbl hbA hS (show i + 1 < L by omega) (show L ≤ 65536 by omega) d_SeriesVaultLaw_law_162 ?_
  refine lv_aload_n hx hb d_SeriesVaultLaw_law_163 rfl (lv_at hl 4 rfl) ?_
  refine lv_iload hx hb d_SeriesVaultLaw_law_164 (lv_at hl 0 rfl) ?_
  refine lv_iconst (v := 2) hx hb d_SeriesVaultLaw_law_166 (by decide) ?_
  refine lv_iadd hx hb d_SeriesVaultLaw_law_167 (tpi (y := nI (i + 2)) (nI_add (i) (2)) ?_)
  refine sldN hx hb hX hbl hbA hS (show i + 2 < L by omega) (show L ≤ 65536 by omega) d_SeriesVaultLaw_law_168 ?_
  refine lv_aload_n hx hb d_SeriesVaultLaw_law_169 rfl (lv_at hl 4 rfl) ?_
  refine lv_iload hx hb d_SeriesVaultLaw_law_170 (lv_at hl 0 rfl) ?_
  refine lv_iconst (v := 3) hx hb d_SeriesVaultLaw_law_172 (by decide) ?_
  refine lv_iadd hx hb d_SeriesVaultLaw_law_173 (tpi (y := nI (i + 3)) (nI_add (i) (3)) ?_)
  refine sldN hx hb hX hbl hbA hS (show i + 3 < L by omega) (show L ≤ 65536 by omega) d_SeriesVaultLaw_law_174 ?_
  refine lv_aload_n hx hb d_SeriesVaultLaw_law_175 rfl (lv_at hl 4 rfl) ?_
  refine lv_iload hx hb d_SeriesVaultLaw_law_176 (lv_at hl 0 rfl) ?_
  refine lv_iconst (v := 4) hx hb d_SeriesVaultLaw_law_178 (by decide) ?_
  refine lv_iadd hx hb d_SeriesVaultLaw_law_179 (tpi (y := nI (i + 4)) (nI_add (i) (4)) ?_)
  refine sldN hx hb hX hbl hbA hS (show i + 4 < L by omega) (show L ≤ 65536 by omega) d_SeriesVaultLaw_law_180 ?_
  refine lv_aload_n hx hb d_SeriesVaultLaw_law_181 rfl (lv_at hl 4 rfl) ?_
  refine lv_iload hx hb d_SeriesVaultLaw_law_182 (lv_at hl 0 rfl) ?_
  refine lv_iconst (v := 5) hx hb d_SeriesVaultLaw_law_184 (by decide) ?_
  refine lv_iadd hx hb d_SeriesVaultLaw_law_185 (tpi (y := nI (i + 5)) (nI_add (i) (5)) ?_)
  refine sldN hx hb hX hbl hbA hS (show i + 5 < L by omega) (show L ≤ 65536 by omega) d_SeriesVaultLaw_law_186 ?_
  refine lv_aload_n hx hb d_SeriesVaultLaw_law_187 rfl (lv_at hl 1 rfl) ?_
  have hPc : va_P D vwCl (([(o, .inl (dA 2, 1, .inr (.inl og)))] : va_W) ++ (VW dA h ad x)) H := spP (wr := MW dA mm mad M) hP
  have hDc : va_D A (([(o, .inl (dA 2, 1, .inr (.inl og)))] : va_W) ++ (VW dA h ad x)) := spD (wr := MW dA mm mad M) hD
  refine jkI (wr := MW dA mm mad M) (rnW (As := [.ref h, .int (xs (i + 1)), .int (xs (i + 2)), .int (xs (i + 3)), .int (xs (i + 4)), .int (xs (i + 5)), .ref o]) (rest := []) hx hb hml hown hE hK (hN _ _ hS) hPc hDc (hW H.size) w1794 w1792 w1795 w1793 rfl rfl ⟨⟨by decide, by decide⟩, rfl⟩ ⟨(show fr1 + 1 ≤ 2048 by omega), (show 8 + (8 + 11) + lo1 ≤ 84000 by omega)⟩ rfl hl.1 rfl (Nat.le_of_ble_eq_true rfl) d_SeriesVaultLaw_law_188 ⟨(show cells + mc9 ≤ 601024 by omega), (show slots + ms9 ≤ 7293034 by omega)⟩) hP hD hS hA (fun k8 u8 H locs hp9 hP hD hS => ?_)
  obtain ⟨hp9, hf9⟩ := hp9
  replace hp9 : 0 = k8 := Eq.symm hp9
  subst hp9
  have hP : va_P D vwCl (MW dA mm mad M ++ (([(o, .inl (dA 2, 1, .inr (.inl (va_up og 0 v9))))] : va_W) ++ (VW dA h ad u8))) H := hP
  have hD : va_D A (MW dA mm mad M ++ (([(o, .inl (dA 2, 1, .inr (.inl (va_up og 0 v9))))] : va_W) ++ (VW dA h ad u8))) := hD
  refine lv_istore hx hb d_SeriesVaultLaw_law_191 hl (by decide) rfl (fun ls hl => ?_)
  have hl : lv_has ls 8 [(5, .int 0), (4, .int (nI i)), (3, .ref o), (2, .ref mm), (1, .ref h), (0, .ref b)] := hl
  refine lv_aload_n hx hb d_SeriesVaultLaw_law_193 rfl (lv_at hl 3 rfl) ?_
  refine lv_aload_n hx hb d_SeriesVaultLaw_law_194 rfl (lv_at hl 5 rfl) ?_
  refine lv_iload hx hb d_SeriesVaultLaw_law_195 (lv_at hl 1 rfl) ?_
  refine lv_iconst (v := 1) hx hb d_SeriesVaultLaw_law_197 (by decide) ?_
  refine lv_iadd hx hb d_SeriesVaultLaw_law_198 (tpi (y := nI (i + 1)) (nI_add (i) (1)) ?_)
  refine sldN hx hb hX hbl hbA hS (show i + 1 < L by omega) (show L ≤ 65536 by omega) d_SeriesVaultLaw_law_199 ?_
  refine lv_aload_n hx hb d_SeriesVaultLaw_law_200 rfl (lv_at hl 5 rfl) ?_
  refine lv_iload hx hb d_SeriesVaultLaw_law_201 (lv_at hl 1 rfl) ?_
  refine lv_iconst (v := 2) hx hb d_SeriesVaultLaw_law_203 (by decide) ?_
  refine lv_iadd hx hb d_SeriesVaultLaw_law_204 (tpi (y := nI (i + 2)) (nI_add (i) (2)) ?_)
  refine sldN hx hb hX hbl hbA hS (show i + 2 < L by omega) (show L ≤ 65536 by omega) d_SeriesVaultLaw_law_205 ?_
  refine lv_aload_n hx hb d_SeriesVaultLaw_law_206 rfl (lv_at hl 5 rfl) ?_
  refine lv_iload hx hb d_SeriesVaultLaw_law_207 (lv_at hl 1 rfl) ?_
  refine lv_iconst (v := 3) hx hb d_SeriesVaultLaw_law_209 (by decide) ?_
  refine lv_iadd hx hb d_SeriesVaultLaw_law_210 (tpi (y := nI (i + 3)) (nI_add (i) (3)) ?_)
  refine sldN hx hb hX hbl hbA hS (show i + 3 < L by omega) (show L ≤ 65536 by omega) d_SeriesVaultLaw_law_211 ?_
  refine lv_aload_n hx hb d_SeriesVaultLaw_law_212 rfl (lv_at hl 5 rfl) ?_
  refine lv_iload hx hb d_SeriesVaultLaw_law_213 (lv_at hl 1 rfl) ?_
  refine lv_iconst (v := 4) hx hb d_SeriesVaultLaw_law_215 (by decide) ?_
  refine lv_iadd hx hb d_SeriesVaultLaw_law_216 (tpi (y := nI (i + 4)) (nI_add (i) (4)) ?_)
  refine sldN hx hb hX hbl hbA hS (show i + 4 < L by omega) (show L ≤ 65536 by omega) d_SeriesVaultLaw_law_217 ?_
  refine lv_aload_n hx hb d_SeriesVaultLaw_law_218 rfl (lv_at hl 5 rfl) ?_
  refine lv_iload hx hb d_SeriesVaultLaw_law_219 (lv_at hl 1 rfl) ?_
  refine lv_iconst (v := 5) hx hb d_SeriesVaultLaw_law_221 (by decide) ?_
  refine lv_iadd hx hb d_SeriesVaultLaw_law_222 (tpi (y := nI (i + 5)) (nI_add (i) (5)) ?_)
  refine sldN hx hb hX hbl hbA hS (show i + 5 < L by omega) (show L ≤ 65536 by omega) d_SeriesVaultLaw_law_223 ?_
  have hP := pmP (show List.Perm (α := Nat × va_E) (MW dA mm mad M ++ (([(o, .inl (dA 2, 1, .inr (.inl (va_up og 0 v9))))] : va_W) ++ (VW dA h ad u8))) (([(o, .inl (dA 2, 1, .inr (.inl (va_up og 0 v9))))] : va_W) ++ (MW dA mm mad M ++ (VW dA h ad u8))) from List.perm_append_comm_assoc (MW dA mm mad M) (([(o, .inl (dA 2, 1, .inr (.inl (va_up og 0 v9))))] : va_W)) (VW dA h ad u8)) hP
  have hD := pmD (show List.Perm (α := Nat × va_E) (MW dA mm mad M ++ (([(o, .inl (dA 2, 1, .inr (.inl (va_up og 0 v9))))] : va_W) ++ (VW dA h ad u8))) (([(o, .inl (dA 2, 1, .inr (.inl (va_up og 0 v9))))] : va_W) ++ (MW dA mm mad M ++ (VW dA h ad u8))) from List.perm_append_comm_assoc (MW dA mm mad M) (([(o, .inl (dA 2, 1, .inr (.inl (va_up og 0 v9))))] : va_W)) (VW dA h ad u8)) hD
  have hP := pmP (show List.Perm (α := Nat × va_E) (([(o, .inl (dA 2, 1, .inr (.inl (va_up og 0 v9))))] : va_W) ++ (MW dA mm mad M ++ (VW dA h ad u8))) (([(o, .inl (dA 2, 1, .inr (.inl (va_up og 0 v9))))] : va_W) ++ (VW dA h ad u8 ++ (MW dA mm mad M))) from List.Perm.append_left (([(o, .inl (dA 2, 1, .inr (.inl (va_up og 0 v9))))] : va_W)) (List.perm_append_comm)) hP
  have hD := pmD (show List.Perm (α := Nat × va_E) (([(o, .inl (dA 2, 1, .inr (.inl (va_up og 0 v9))))] : va_W) ++ (MW dA mm mad M ++ (VW dA h ad u8))) (([(o, .inl (dA 2, 1, .inr (.inl (va_up og 0 v9))))] : va_W) ++ (VW dA h ad u8 ++ (MW dA mm mad M))) from List.Perm.append_left (([(o, .inl (dA 2, 1, .inr (.inl (va_up og 0 v9))))] : va_W)) (List.perm_append_comm)) hD
  have hPc : va_P D vwCl (MW dA mm mad M) H := spP (wr := ([(o, .inl (dA 2, 1, .inr (.inl (va_up og 0 v9))))] : va_W) ++ (VW dA h ad u8)) hP
  have hDc : va_D A (MW dA mm mad M) := spD (wr := ([(o, .inl (dA 2, 1, .inr (.inl (va_up og 0 v9))))] : va_W) ++ (VW dA h ad u8)) hD
  refine jkI (wr := ([(o, .inl (dA 2, 1, .inr (.inl (va_up og 0 v9))))] : va_W) ++ (VW dA h ad u8)) (rnV (As := [.int (xs (i + 1)), .int (xs (i + 2)), .int (xs (i + 3)), .int (xs (i + 4)), .int (xs (i + 5))]) (rest := []) hx hb hml hown hE hK (hN _ _ hS) hPc hDc (hM H.size) (q0 := 0) rfl rfl w1797 w1796 w1798 w1799 w328 rfl rfl ⟨⟨by decide, by decide⟩, rfl⟩ ⟨(show fr2 + 1 ≤ 2048 by omega), (show 8 + (8 + 11) + lo2 ≤ 84000 by omega)⟩ rfl hl.1 rfl (Nat.le_of_ble_eq_true rfl) d_SeriesVaultLaw_law_224 ⟨(show cells + mc9 + 0 ≤ 601024 by omega), (show slots + ms9 + 0 ≤ 7293034 by omega)⟩) hP hD hS hA (fun r7 u7 H locs hp9 hP hD hS => ?_)
  replace hp9 : b9 = r7 := Eq.symm hp9
  subst hp9
  have hP : va_P D vwCl (([(o, .inl (dA 2, 1, .inr (.inl (va_up og 0 v9))))] : va_W) ++ (VW dA h ad u8 ++ (MW dA mm mad M1))) H := hP
  have hD : va_D A (([(o, .inl (dA 2, 1, .inr (.inl (va_up og 0 v9))))] : va_W) ++ (VW dA h ad u8 ++ (MW dA mm mad M1))) := hD
  refine lv_istore hx hb d_SeriesVaultLaw_law_227 hl (by decide) rfl (fun ls hl => ?_)
  have hl : lv_has ls 8 [(6, .int b9), (5, .int 0), (4, .int (nI i)), (3, .ref o), (2, .ref mm), (1, .ref h), (0, .ref b)] := hl
  refine lv_aload_n hx hb d_SeriesVaultLaw_law_229 rfl (lv_at hl 4 rfl) ?_
  have hPc : va_P D vwCl (MW dA mm mad M1) H := spP (wr := ([(o, .inl (dA 2, 1, .inr (.inl (va_up og 0 v9))))] : va_W) ++ (VW dA h ad u8)) hP
  have hDc : va_D A (MW dA mm mad M1) := spD (wr := ([(o, .inl (dA 2, 1, .inr (.inl (va_up og 0 v9))))] : va_W) ++ (VW dA h ad u8)) hD
  refine jkI (wr := ([(o, .inl (dA 2, 1, .inr (.inl (va_up og 0 v9))))] : va_W) ++ (VW dA h ad u8)) (rnV (As := []) (rest := []) hx hb hml hown hE hK (hN _ _ hS) hPc hDc (k_thrown l D dA H.size mm mad M1) (q0 := 0) rfl rfl w1801 w1800 w1802 w1803 w328 rfl rfl ⟨⟨by decide, by decide⟩, rfl⟩ ⟨(show 1 + 1 ≤ 2048 by omega), (show 8 + (1 + 11) + 0 ≤ 84000 by omega)⟩ rfl hl.1 rfl (Nat.le_of_ble_eq_true rfl) d_SeriesVaultLaw_law_230 ⟨(show cells + mc9 + 0 ≤ 601024 by omega), (show slots + ms9 + 0 ≤ 7293034 by omega)⟩) hP hD hS hA (fun r7 u7 H locs hp9 hP hD hS => ?_)
  replace hp9 : 0 = r7 := Eq.symm (hp9.trans hcod)
  subst hp9
  have hP : va_P D vwCl (([(o, .inl (dA 2, 1, .inr (.inl (va_up og 0 v9))))] : va_W) ++ (VW dA h ad u8 ++ (MW dA mm mad M1))) H := hP
  have hD : va_D A (([(o, .inl (dA 2, 1, .inr (.inl (va_up og 0 v9))))] : va_W) ++ (VW dA h ad u8 ++ (MW dA mm mad M1))) := hD
  refine lv_iload hx hb d_SeriesVaultLaw_law_233 (lv_at hl 1 rfl) ?_
  refine lv_icmp_eq hx hb d_SeriesVaultLaw_law_235 (tgt := 240) rfl (fun _ => ?_) (fun h9 => absurd rfl h9)
  refine lv_iload hx hb d_SeriesVaultLaw_law_240 (lv_at hl 1 rfl) ?_
  refine lv_if_ne hx hb d_SeriesVaultLaw_law_242 (tgt := 257) rfl (fun h9 => absurd (by decide) h9) (fun _ => ?_)
  refine lv_aload_n hx hb d_SeriesVaultLaw_law_245 rfl (lv_at hl 3 rfl) ?_
  refine lv_iconst (v := 0) hx hb d_SeriesVaultLaw_law_246 (by decide) ?_
  refine nlld (f := (va_up og 0 v9)) (n := 1) hx hb hK hP (0) 2 rfl rfl (0) (by decide) (by decide) d_SeriesVaultLaw_law_247 ?_
  refine tpl (y := v9) (va_up_self _ _ _) ?_
  refine lv_iload hx hb d_SeriesVaultLaw_law_248 (lv_at hl 0 rfl) ?_
  refine lv_i2l hx hb d_SeriesVaultLaw_law_250 rfl ?_
  refine W.lcmp hx hb d_SeriesVaultLaw_law_251 ?_
  refine lv_if_eq hx hb d_SeriesVaultLaw_law_252 (tgt := 257) rfl (fun _ => ?_) (fun h9 => absurd ((lg_cmp_eq _ _).mpr hv) h9)
  refine lv_goto hx hb d_SeriesVaultLaw_law_257 (tgt := 1770) rfl ?_
  refine lv_iinc (k := 2) (v := nI (i + 6)) hx hb d_SeriesVaultLaw_law_1770 hl rfl (iincN (i) 6 6 (by decide)) (by decide) rfl (fun ls hl => ?_)
  have hl : lv_has ls 8 [(4, .int (nI (i + 6))), (6, .int b9), (5, .int 0), (3, .ref o), (2, .ref mm), (1, .ref h), (0, .ref b)] := hl
  refine lv_goto hx hb d_SeriesVaultLaw_law_1773 (tgt := 23) rfl ?_
  have hP := pmP (show List.Perm (α := Nat × va_E) (([(o, .inl (dA 2, 1, .inr (.inl (va_up og 0 v9))))] : va_W) ++ (VW dA h ad u8 ++ (MW dA mm mad M1))) (MW dA mm mad M1 ++ (([(o, .inl (dA 2, 1, .inr (.inl (va_up og 0 v9))))] : va_W) ++ (VW dA h ad u8))) from (List.Perm.append_left (([(o, .inl (dA 2, 1, .inr (.inl (va_up og 0 v9))))] : va_W)) (List.perm_append_comm)).trans (List.perm_append_comm_assoc (([(o, .inl (dA 2, 1, .inr (.inl (va_up og 0 v9))))] : va_W)) (MW dA mm mad M1) (VW dA h ad u8))) hP
  have hD := pmD (show List.Perm (α := Nat × va_E) (([(o, .inl (dA 2, 1, .inr (.inl (va_up og 0 v9))))] : va_W) ++ (VW dA h ad u8 ++ (MW dA mm mad M1))) (MW dA mm mad M1 ++ (([(o, .inl (dA 2, 1, .inr (.inl (va_up og 0 v9))))] : va_W) ++ (VW dA h ad u8))) from (List.Perm.append_left (([(o, .inl (dA 2, 1, .inr (.inl (va_up og 0 v9))))] : va_W)) (List.perm_append_comm)).trans (List.perm_append_comm_assoc (([(o, .inl (dA 2, 1, .inr (.inl (va_up og 0 v9))))] : va_W)) (MW dA mm mad M1) (VW dA h ad u8))) hD
  have hP : va_P D vwCl (MW dA mm mad M1 ++ (([(o, .inl (dA 2, 1, .inr (.inl (va_up og 0 v9))))] : va_W) ++ (VW dA h ad u8))) H := hP
  have hD : va_D A (MW dA mm mad M1 ++ (([(o, .inl (dA 2, 1, .inr (.inl (va_up og 0 v9))))] : va_W) ++ (VW dA h ad u8))) := hD
  have hl := lv_sub (l' := [(4, .int (nI (i + 6))), (3, .ref o), (2, .ref mm), (1, .ref h), (0, .ref b)]) hl [0, 3, 4, 5, 6] rfl
  exact cont u8 H locs ls hf9 hP hD hS hl
set_option maxHeartbeats 4000000 in
set_option maxRecDepth 100000 in
theorem l9_0_x {p : Program} {e : Env} {s : State} {m : MethodId} {below : List Frame} {meth : Method} {c : Code} (l : Launch) {b L : Nat} {xs : Nat → Int32} {D : va_G} {dA : Nat → ClassId} {e0 : Nat} {A : Nat → Prop} {H : Heap} {locs : List Loc} {ls : Array Slot} (hC : lS p l s m meth c b L xs D dA e0 A) {h : Nat} {ad : Nat → Nat} {x : VS} {mm : Nat} {mad : Nat → Nat} {M M1 : MS} {o : Nat} {og : Nat → Int64} {i fr1 lo1 fr2 lo2 mc9 ms9 cells slots : Nat} {F9 : VS → Prop} {b9 : Int32} {k9 : Nat} (hi : i + 6 ≤ L) (hL : L ≤ 3072) (hfr : fr1 ≤ 2000 ∧ lo1 ≤ 80000 ∧ fr2 ≤ 2000 ∧ lo2 ≤ 80000) (hrm : cells + mc9 ≤ 601024 ∧ slots + ms9 ≤ 7293034) (hcod : M1.cod = nI k9) (hk9 : ¬ nI k9 = 0) (hW : ∀ sz : Nat, Met l ⟨"SeriesVaultLaw", "feed", "(LSeriesVault;IIIII[J)I"⟩ [Cond.codeWith ⟨"SeriesVaultLaw", "feed", "(LSeriesVault;IIIII[J)I"⟩ method_3_code 8 (some FieldType.int) [(0, 16, 19, 13)]] { frames := fr1, cells := mc9, slots := ms9, locals := lo1 } (pC D dA [.ref h, .int (xs (i + 1)), .int (xs (i + 2)), .int (xs (i + 3)), .int (xs (i + 4)), .int (xs (i + 5)), .ref o] (([(o, .inl (dA 2, 1, .inr (.inl og)))] : va_W) ++ (VW dA h ad x)) sz) (va_Qi (fun (r9 : Int32) (u9 : VS) => r9 = nI k9 ∧ F9 u9) (fun (u9 : VS) t9 => bW D (va_A (([(o, .inl (dA 2, 1, .inr (.inl og)))] : va_W) ++ (VW dA h ad x)) sz) (([(o, .inl (dA 2, 1, .inr (.inl (og))))] : va_W) ++ (VW dA h ad u9)) t9) (va_A (([(o, .inl (dA 2, 1, .inr (.inl og)))] : va_W) ++ (VW dA h ad x)) sz)) mc9 ms9 (va_A (([(o, .inl (dA 2, 1, .inr (.inl og)))] : va_W) ++ (VW dA h ad x)) sz)) (hM : ∀ sz : Nat, Met l ⟨"SeriesVaultModel", "feed", "(IIIII)I"⟩ [Cond.code ⟨"SeriesVaultModel", "feed", "(IIIII)I"⟩ prog_14_method_3_code 8 (some FieldType.int)] { frames := fr2, cells := 0, slots := 0, locals := lo2 } (pC D dA [.ref mm, .int (xs (i + 1)), .int (xs (i + 2)), .int (xs (i + 3)), .int (xs (i + 4)), .int (xs (i + 5))] (MW dA mm mad M) sz) (va_Qi (fun (r9 : Int32) (u9 : Unit) => r9 = b9) (fun (u9 : Unit) t9 => bW D (va_A (MW dA mm mad M) sz) (MW dA mm mad M1) t9) (va_A (MW dA mm mad M) sz)) 0 0 (va_A (MW dA mm mad M) sz)) (hP : va_P D vwCl (MW dA mm mad M ++ (([(o, .inl (dA 2, 1, .inr (.inl og)))] : va_W) ++ (VW dA h ad x))) H) (hD : va_D A (MW dA mm mad M ++ (([(o, .inl (dA 2, 1, .inr (.inl og)))] : va_W) ++ (VW dA h ad x)))) (hS : va_S A s.heap H locs) (hl : lv_has ls 8 [(4, .int (nI i)), (3, .ref o), (2, .ref mm), (1, .ref h), (0, .ref b)]) (cont : ∀ (u : VS) (H1 : Heap) (locs1 : List Loc) (ls1 : Array Slot), F9 u → va_P D vwCl (MW dA mm mad M1 ++ (([(o, .inl (dA 2, 1, .inr (.inl og)))] : va_W) ++ (VW dA h ad u))) H1 → va_D A (MW dA mm mad M1 ++ (([(o, .inl (dA 2, 1, .inr (.inl og)))] : va_W) ++ (VW dA h ad u))) → va_S A s.heap H1 locs1 → lv_has ls1 8 [(4, .int (nI (i + 6))), (3, .ref o), (2, .ref mm), (1, .ref h), (0, .ref b)] → W p l e room_1 s m #[Value.ref b] below meth c H1 locs1 (cells + mc9 + 0 + 0) (slots + ms9 + 0 + 0) (lw_Z below #[Value.ref b] s) (F0 m 23 ls1 [])) : W p l e room_1 s m #[Value.ref b] below meth c H locs cells slots (lw_Z below #[Value.ref b] s) (F0 m 156 ls []) := by
  have hC0 := hC
  obtain ⟨hx, hb, hr, hml, hown, hlk, hE, hK, hA, hN, hZ, hT, hX, hbl, hbA, hnew, htr⟩ := hC
  refine lv_aload_n hx hb d_SeriesVaultLaw_law_156 rfl (lv_at hl 3 rfl) ?_
  refine lv_aload_n hx hb d_SeriesVaultLaw_law_157 rfl (lv_at hl 4 rfl) ?_
  refine lv_iload hx hb d_SeriesVaultLaw_law_158 (lv_at hl 0 rfl) ?_
  refine lv_iconst (v := 1) hx hb d_SeriesVaultLaw_law_160 (by decide) ?_
  refine lv_iadd hx hb d_SeriesVaultLaw_law_161 (tpi (y := nI (i + 1)) (nI_add (i) (1)) ?_)
  refine sldN hx hb hX hbl hbA hS (show i + 1 < L by omega) (show L ≤ 65536 by omega) d_SeriesVaultLaw_law_162 ?_
  refine lv_aload_n hx hb d_SeriesVaultLaw_law_163 rfl (lv_at hl 4 rfl) ?_
  refine lv_iload hx hb d_SeriesVaultLaw_law_164 (lv_at hl 0 rfl) ?_
  refine lv_iconst (v := 2) hx hb d_SeriesVaultLaw_law_166 (by decide) ?_
  refine lv_iadd hx hb d_SeriesVaultLaw_law_167 (tpi (y := nI (i + 2)) (nI_add (i) (2)) ?_)
  refine sldN hx hb hX hbl hbA hS (show i + 2 < L by omega) (show L ≤ 65536 by omega) d_SeriesVaultLaw_law_168 ?_
  refine lv_aload_n hx hb d_SeriesVaultLaw_law_169 rfl (lv_at hl 4 rfl) ?_
  refine lv_iload hx hb d_SeriesVaultLaw_law_170 (lv_at hl 0 rfl) ?_
  refine lv_iconst (v := 3) hx hb d_SeriesVaultLaw_law_172 (by decide) ?_
  refine lv_iadd hx hb d_SeriesVaultLaw_law_173 (tpi (y := nI (i + 3)) (nI_add (i) (3)) ?_)
  refine sldN hx hb hX hbl hbA hS (show i + 3 < L by omega) (show L ≤ 65536 by omega) d_SeriesVaultLaw_law_174 ?_
  refine lv_aload_n hx hb d_SeriesVaultLaw_law_175 rfl (lv_at hl 4 rfl) ?_
  refine lv_iload hx hb d_SeriesVaultLaw_law_176 (lv_at hl 0 rfl) ?_
  refine lv_iconst (v := 4) hx hb d_SeriesVaultLaw_law_178 (by decide) ?_
  refine lv_iadd hx hb d_SeriesVaultLaw_law_179 (tpi (y := nI (i + 4)) (nI_add (i) (4)) ?_)
  refine sldN hx hb hX hbl hbA hS (show i + 4 < L by omega) (show L ≤ 65536 by omega) d_SeriesVaultLaw_law_180 ?_
  refine lv_aload_n hx hb d_SeriesVaultLaw_law_181 rfl (lv_at hl 4 rfl) ?_
  refine lv_iload hx hb d_SeriesVaultLaw_law_182 (lv_at hl 0 rfl) ?_
  refine lv_iconst (v := 5) hx hb d_SeriesVaultLaw_law_184 (by decide) ?_
  refine lv_iadd hx hb d_SeriesVaultLaw_law_185 (tpi (y := nI (i + 5)) (nI_add (i) (5)) ?_)
  refine sldN hx hb hX hbl hbA hS (show i + 5 < L by omega) (show L ≤ 65536 by omega) d_SeriesVaultLaw_law_186 ?_
  refine lv_aload_n hx hb d_SeriesVaultLaw_law_187 rfl (lv_at hl 1 rfl) ?_
  have hPc : va_P D vwCl (([(o, .inl (dA 2, 1, .inr (.inl og)))] : va_W) ++ (VW dA h ad x)) H := spP (wr := MW dA mm mad M) hP
  have hDc : va_D A (([(o, .inl (dA 2, 1, .inr (.inl og)))] : va_W) ++ (VW dA h ad x)) := spD (wr := MW dA mm mad M) hD
  refine jkI (wr := MW dA mm mad M) (rnW (As := [.ref h, .int (xs (i + 1)), .int (xs (i + 2)), .int (xs (i + 3)), .int (xs (i + 4)), .int (xs (i + 5)), .ref o]) (rest := []) hx hb hml hown hE hK (hN _ _ hS) hPc hDc (hW H.size) w1794 w1792 w1795 w1793 rfl rfl ⟨⟨by decide, by decide⟩, rfl⟩ ⟨(show fr1 + 1 ≤ 2048 by omega), (show 8 + (8 + 11) + lo1 ≤ 84000 by omega)⟩ rfl hl.1 rfl (Nat.le_of_ble_eq_true rfl) d_SeriesVaultLaw_law_188 ⟨(show cells + mc9 ≤ 601024 by omega), (show slots + ms9 ≤ 7293034 by omega)⟩) hP hD hS hA (fun k8 u8 H locs hp9 hP hD hS => ?_)
  obtain ⟨hp9, hf9⟩ := hp9
  replace hp9 : nI k9 = k8 := Eq.symm hp9
  subst hp9
  have hP : va_P D vwCl (MW dA mm mad M ++ (([(o, .inl (dA 2, 1, .inr (.inl og)))] : va_W) ++ (VW dA h ad u8))) H := hP
  have hD : va_D A (MW dA mm mad M ++ (([(o, .inl (dA 2, 1, .inr (.inl og)))] : va_W) ++ (VW dA h ad u8))) := hD
  refine lv_istore hx hb d_SeriesVaultLaw_law_191 hl (by decide) rfl (fun ls hl => ?_)
  have hl : lv_has ls 8 [(5, .int (nI k9)), (4, .int (nI i)), (3, .ref o), (2, .ref mm), (1, .ref h), (0, .ref b)] := hl
  refine lv_aload_n hx hb d_SeriesVaultLaw_law_193 rfl (lv_at hl 3 rfl) ?_
  refine lv_aload_n hx hb d_SeriesVaultLaw_law_194 rfl (lv_at hl 5 rfl) ?_
  refine lv_iload hx hb d_SeriesVaultLaw_law_195 (lv_at hl 1 rfl) ?_
  refine lv_iconst (v := 1) hx hb d_SeriesVaultLaw_law_197 (by decide) ?_
  refine lv_iadd hx hb d_SeriesVaultLaw_law_198 (tpi (y := nI (i + 1)) (nI_add (i) (1)) ?_)
  refine sldN hx hb hX hbl hbA hS (show i + 1 < L by omega) (show L ≤ 65536 by omega) d_SeriesVaultLaw_law_199 ?_
  refine lv_aload_n hx hb d_SeriesVaultLaw_law_200 rfl (lv_at hl 5 rfl) ?_
  refine lv_iload hx hb d_SeriesVaultLaw_law_201 (lv_at hl 1 rfl) ?_
  refine lv_iconst (v := 2) hx hb d_SeriesVaultLaw_law_203 (by decide) ?_
  refine lv_iadd hx hb d_SeriesVaultLaw_law_204 (tpi (y := nI (i + 2)) (nI_add (i) (2)) ?_)
  refine sldN hx hb hX hbl hbA hS (show i + 2 < L by omega) (show L ≤ 65536 by omega) d_SeriesVaultLaw_law_205 ?_
  refine lv_aload_n hx hb d_SeriesVaultLaw_law_206 rfl (lv_at hl 5 rfl) ?_
  refine lv_iload hx hb d_SeriesVaultLaw_law_207 (lv_at hl 1 rfl) ?_
  refine lv_iconst (v := 3) hx hb d_SeriesVaultLaw_law_209 (by decide) ?_
  refine lv_iadd hx hb d_SeriesVaultLaw_law_210 (tpi (y := nI (i + 3)) (nI_add (i) (3)) ?_)
  refine sldN hx hb hX hbl hbA hS (show i + 3 < L by omega) (show L ≤ 65536 by omega) d_SeriesVaultLaw_law_211 ?_
  refine lv_aload_n hx hb d_SeriesVaultLaw_law_212 rfl (lv_at hl 5 rfl) ?_
  refine lv_iload hx hb d_SeriesVaultLaw_law_213 (lv_at hl 1 rfl) ?_
  refine lv_iconst (v := 4) hx hb d_SeriesVaultLaw_law_215 (by decide) ?_
  refine lv_iadd hx hb d_SeriesVaultLaw_law_216 (tpi (y := nI (i + 4)) (nI_add (i) (4)) ?_)
  refine sldN hx hb hX hbl hbA hS (show i + 4 < L by omega) (show L ≤ 65536 by omega) d_SeriesVaultLaw_law_217 ?_
  refine lv_aload_n hx hb d_SeriesVaultLaw_law_218 rfl (lv_at hl 5 rfl) ?_
  refine lv_iload hx hb d_SeriesVaultLaw_law_219 (lv_at hl 1 rfl) ?_
  refine lv_iconst (v := 5) hx hb d_SeriesVaultLaw_law_221 (by decide) ?_
  refine lv_iadd hx hb d_SeriesVaultLaw_law_222 (tpi (y := nI (i + 5)) (nI_add (i) (5)) ?_)
  refine sldN hx hb hX hbl hbA hS (show i + 5 < L by omega) (show L ≤ 65536 by omega) d_SeriesVaultLaw_law_223 ?_
  have hP := pmP (show List.Perm (α := Nat × va_E) (MW dA mm mad M ++ (([(o, .inl (dA 2, 1, .inr (.inl og)))] : va_W) ++ (VW dA h ad u8))) (([(o, .inl (dA 2, 1, .inr (.inl og)))] : va_W) ++ (MW dA mm mad M ++ (VW dA h ad u8))) from List.perm_append_comm_assoc (MW dA mm mad M) (([(o, .inl (dA 2, 1, .inr (.inl og)))] : va_W)) (VW dA h ad u8)) hP
  have hD := pmD (show List.Perm (α := Nat × va_E) (MW dA mm mad M ++ (([(o, .inl (dA 2, 1, .inr (.inl og)))] : va_W) ++ (VW dA h ad u8))) (([(o, .inl (dA 2, 1, .inr (.inl og)))] : va_W) ++ (MW dA mm mad M ++ (VW dA h ad u8))) from List.perm_append_comm_assoc (MW dA mm mad M) (([(o, .inl (dA 2, 1, .inr (.inl og)))] : va_W)) (VW dA h ad u8)) hD
  have hP := pmP (show List.Perm (α := Nat × va_E) (([(o, .inl (dA 2, 1, .inr (.inl og)))] : va_W) ++ (MW dA mm mad M ++ (VW dA h ad u8))) (([(o, .inl (dA 2, 1, .inr (.inl og)))] : va_W) ++ (VW dA h ad u8 ++ (MW dA mm mad M))) from List.Perm.append_left (([(o, .inl (dA 2, 1, .inr (.inl og)))] : va_W)) (List.perm_append_comm)) hP
  have hD := pmD (show List.Perm (α := Nat × va_E) (([(o, .inl (dA 2, 1, .inr (.inl og)))] : va_W) ++ (MW dA mm mad M ++ (VW dA h ad u8))) (([(o, .inl (dA 2, 1, .inr (.inl og)))] : va_W) ++ (VW dA h ad u8 ++ (MW dA mm mad M))) from List.Perm.append_left (([(o, .inl (dA 2, 1, .inr (.inl og)))] : va_W)) (List.perm_append_comm)) hD
  have hPc : va_P D vwCl (MW dA mm mad M) H := spP (wr := ([(o, .inl (dA 2, 1, .inr (.inl og)))] : va_W) ++ (VW dA h ad u8)) hP
  have hDc : va_D A (MW dA mm mad M) := spD (wr := ([(o, .inl (dA 2, 1, .inr (.inl og)))] : va_W) ++ (VW dA h ad u8)) hD
  refine jkI (wr := ([(o, .inl (dA 2, 1, .inr (.inl og)))] : va_W) ++ (VW dA h ad u8)) (rnV (As := [.int (xs (i + 1)), .int (xs (i + 2)), .int (xs (i + 3)), .int (xs (i + 4)), .int (xs (i + 5))]) (rest := []) hx hb hml hown hE hK (hN _ _ hS) hPc hDc (hM H.size) (q0 := 0) rfl rfl w1797 w1796 w1798 w1799 w328 rfl rfl ⟨⟨by decide, by decide⟩, rfl⟩ ⟨(show fr2 + 1 ≤ 2048 by omega), (show 8 + (8 + 11) + lo2 ≤ 84000 by omega)⟩ rfl hl.1 rfl (Nat.le_of_ble_eq_true rfl) d_SeriesVaultLaw_law_224 ⟨(show cells + mc9 + 0 ≤ 601024 by omega), (show slots + ms9 + 0 ≤ 7293034 by omega)⟩) hP hD hS hA (fun r7 u7 H locs hp9 hP hD hS => ?_)
  replace hp9 : b9 = r7 := Eq.symm hp9
  subst hp9
  have hP : va_P D vwCl (([(o, .inl (dA 2, 1, .inr (.inl og)))] : va_W) ++ (VW dA h ad u8 ++ (MW dA mm mad M1))) H := hP
  have hD : va_D A (([(o, .inl (dA 2, 1, .inr (.inl og)))] : va_W) ++ (VW dA h ad u8 ++ (MW dA mm mad M1))) := hD
  refine lv_istore hx hb d_SeriesVaultLaw_law_227 hl (by decide) rfl (fun ls hl => ?_)
  have hl : lv_has ls 8 [(6, .int b9), (5, .int (nI k9)), (4, .int (nI i)), (3, .ref o), (2, .ref mm), (1, .ref h), (0, .ref b)] := hl
  refine lv_aload_n hx hb d_SeriesVaultLaw_law_229 rfl (lv_at hl 4 rfl) ?_
  have hPc : va_P D vwCl (MW dA mm mad M1) H := spP (wr := ([(o, .inl (dA 2, 1, .inr (.inl og)))] : va_W) ++ (VW dA h ad u8)) hP
  have hDc : va_D A (MW dA mm mad M1) := spD (wr := ([(o, .inl (dA 2, 1, .inr (.inl og)))] : va_W) ++ (VW dA h ad u8)) hD
  refine jkI (wr := ([(o, .inl (dA 2, 1, .inr (.inl og)))] : va_W) ++ (VW dA h ad u8)) (rnV (As := []) (rest := []) hx hb hml hown hE hK (hN _ _ hS) hPc hDc (k_thrown l D dA H.size mm mad M1) (q0 := 0) rfl rfl w1801 w1800 w1802 w1803 w328 rfl rfl ⟨⟨by decide, by decide⟩, rfl⟩ ⟨(show 1 + 1 ≤ 2048 by omega), (show 8 + (1 + 11) + 0 ≤ 84000 by omega)⟩ rfl hl.1 rfl (Nat.le_of_ble_eq_true rfl) d_SeriesVaultLaw_law_230 ⟨(show cells + mc9 + 0 ≤ 601024 by omega), (show slots + ms9 + 0 ≤ 7293034 by omega)⟩) hP hD hS hA (fun r7 u7 H locs hp9 hP hD hS => ?_)
  replace hp9 : nI k9 = r7 := Eq.symm (hp9.trans hcod)
  subst hp9
  have hP : va_P D vwCl (([(o, .inl (dA 2, 1, .inr (.inl og)))] : va_W) ++ (VW dA h ad u8 ++ (MW dA mm mad M1))) H := hP
  have hD : va_D A (([(o, .inl (dA 2, 1, .inr (.inl og)))] : va_W) ++ (VW dA h ad u8 ++ (MW dA mm mad M1))) := hD
  refine lv_iload hx hb d_SeriesVaultLaw_law_233 (lv_at hl 1 rfl) ?_
  refine lv_icmp_eq hx hb d_SeriesVaultLaw_law_235 (tgt := 240) rfl (fun _ => ?_) (fun h9 => absurd rfl h9)
  refine lv_iload hx hb d_SeriesVaultLaw_law_240 (lv_at hl 1 rfl) ?_
  refine lv_if_ne hx hb d_SeriesVaultLaw_law_242 (tgt := 257) rfl (fun _ => ?_) (fun h9 => absurd h9 hk9)
  refine lv_goto hx hb d_SeriesVaultLaw_law_257 (tgt := 1770) rfl ?_
  refine lv_iinc (k := 2) (v := nI (i + 6)) hx hb d_SeriesVaultLaw_law_1770 hl rfl (iincN (i) 6 6 (by decide)) (by decide) rfl (fun ls hl => ?_)
  have hl : lv_has ls 8 [(4, .int (nI (i + 6))), (6, .int b9), (5, .int (nI k9)), (3, .ref o), (2, .ref mm), (1, .ref h), (0, .ref b)] := hl
  refine lv_goto hx hb d_SeriesVaultLaw_law_1773 (tgt := 23) rfl ?_
  have hP := pmP (show List.Perm (α := Nat × va_E) (([(o, .inl (dA 2, 1, .inr (.inl og)))] : va_W) ++ (VW dA h ad u8 ++ (MW dA mm mad M1))) (MW dA mm mad M1 ++ (([(o, .inl (dA 2, 1, .inr (.inl og)))] : va_W) ++ (VW dA h ad u8))) from (List.Perm.append_left (([(o, .inl (dA 2, 1, .inr (.inl og)))] : va_W)) (List.perm_append_comm)).trans (List.perm_append_comm_assoc (([(o, .inl (dA 2, 1, .inr (.inl og)))] : va_W)) (MW dA mm mad M1) (VW dA h ad u8))) hP
  have hD := pmD (show List.Perm (α := Nat × va_E) (([(o, .inl (dA 2, 1, .inr (.inl og)))] : va_W) ++ (VW dA h ad u8 ++ (MW dA mm mad M1))) (MW dA mm mad M1 ++ (([(o, .inl (dA 2, 1, .inr (.inl og)))] : va_W) ++ (VW dA h ad u8))) from (List.Perm.append_left (([(o, .inl (dA 2, 1, .inr (.inl og)))] : va_W)) (List.perm_append_comm)).trans (List.perm_append_comm_assoc (([(o, .inl (dA 2, 1, .inr (.inl og)))] : va_W)) (MW dA mm mad M1) (VW dA h ad u8))) hD
  have hP : va_P D vwCl (MW dA mm mad M1 ++ (([(o, .inl (dA 2, 1, .inr (.inl og)))] : va_W) ++ (VW dA h ad u8))) H := hP
  have hD : va_D A (MW dA mm mad M1 ++ (([(o, .inl (dA 2, 1, .inr (.inl og)))] : va_W) ++ (VW dA h ad u8))) := hD
  have hl := lv_sub (l' := [(4, .int (nI (i + 6))), (3, .ref o), (2, .ref mm), (1, .ref h), (0, .ref b)]) hl [0, 3, 4, 5, 6] rfl
  exact cont u8 H locs ls hf9 hP hD hS hl
theorem d_SeriesVaultLaw_law_260 : decode code 260 = .ok (.aload_n 1, 1) := by decide +kernel
theorem d_SeriesVaultLaw_law_261 : decode code 261 = .ok (.aload_n 0, 1) := by decide +kernel
theorem d_SeriesVaultLaw_law_262 : decode code 262 = .ok (.iload 4, 2) := by decide +kernel
theorem d_SeriesVaultLaw_law_264 : decode code 264 = .ok (.iconst 1, 1) := by decide +kernel
theorem d_SeriesVaultLaw_law_265 : decode code 265 = .ok (.iadd, 1) := by decide +kernel
theorem d_SeriesVaultLaw_law_266 : decode code 266 = .ok (.iaload, 1) := by decide +kernel
theorem d_SeriesVaultLaw_law_267 : decode code 267 = .ok (.invokestatic 113, 3) := by decide +kernel
theorem d_SeriesVaultLaw_law_270 : decode code 270 = .ok (.istore 5, 2) := by decide +kernel
theorem d_SeriesVaultLaw_law_272 : decode code 272 = .ok (.aload_n 2, 1) := by decide +kernel
theorem d_SeriesVaultLaw_law_273 : decode code 273 = .ok (.aload_n 0, 1) := by decide +kernel
theorem d_SeriesVaultLaw_law_274 : decode code 274 = .ok (.iload 4, 2) := by decide +kernel
theorem d_SeriesVaultLaw_law_276 : decode code 276 = .ok (.iconst 1, 1) := by decide +kernel
theorem d_SeriesVaultLaw_law_277 : decode code 277 = .ok (.iadd, 1) := by decide +kernel
theorem d_SeriesVaultLaw_law_278 : decode code 278 = .ok (.iaload, 1) := by decide +kernel
theorem d_SeriesVaultLaw_law_279 : decode code 279 = .ok (.invokevirtual 116, 3) := by decide +kernel
theorem d_SeriesVaultLaw_law_282 : decode code 282 = .ok (.aload_n 2, 1) := by decide +kernel
theorem d_SeriesVaultLaw_law_283 : decode code 283 = .ok (.invokevirtual 110, 3) := by decide +kernel
theorem d_SeriesVaultLaw_law_286 : decode code 286 = .ok (.iload 5, 2) := by decide +kernel
theorem d_SeriesVaultLaw_law_288 : decode code 288 = .ok (.if_icmp .eq 5, 3) := by decide +kernel
theorem d_SeriesVaultLaw_law_293 : decode code 293 = .ok (.goto 1477, 3) := by decide +kernel
theorem w1804 : Cond.methodLink "SeriesVaultLaw" 113 ⟨"SeriesVaultLaw", "end", "(LSeriesVault;I)I"⟩ ∈ aW := aw_of (tb_3 (List.mem_of_getElem? (i := 135) rfl)) rfl
theorem w1805 : Cond.codeWith ⟨"SeriesVaultLaw", "end", "(LSeriesVault;I)I"⟩ method_4_code 3 (some FieldType.int) [(0, 5, 8, 19)] ∈ aW := aw_of (tb_3 (List.mem_of_getElem? (i := 137) rfl)) rfl
theorem w1806 : Cond.static ⟨"SeriesVaultLaw", "end", "(LSeriesVault;I)I"⟩ ∈ aW := aw_of (tb_3 (List.mem_of_getElem? (i := 136) rfl)) rfl
theorem w1807 : Cond.methodLink "SeriesVaultLaw" 116 ⟨"SeriesVaultModel", "end", "(I)V"⟩ ∈ aW := aw_of (tb_9 (List.mem_of_getElem? (i := 180) rfl)) rfl
theorem w1808 : Cond.code ⟨"SeriesVaultModel", "end", "(I)V"⟩ prog_14_method_4_code 2 none ∈ aW := aw_of (tb_9 (List.mem_of_getElem? (i := 183) rfl)) rfl
theorem w1809 : Cond.instanceMethod ⟨"SeriesVaultModel", "end", "(I)V"⟩ ∈ aW := aw_of (tb_9 (List.mem_of_getElem? (i := 181) rfl)) rfl
theorem w1810 : Cond.selects "SeriesVaultModel" ⟨"SeriesVaultModel", "end", "(I)V"⟩ ⟨"SeriesVaultModel", "end", "(I)V"⟩ ∈ aW := aw_of (tb_9 (List.mem_of_getElem? (i := 182) rfl)) rfl
set_option maxHeartbeats 4000000 in
set_option maxRecDepth 100000 in
theorem l9_1 {p : Program} {e : Env} {s : State} {m : MethodId} {below : List Frame} {meth : Method} {c : Code} (l : Launch) {b L : Nat} {xs : Nat → Int32} {D : va_G} {dA : Nat → ClassId} {e0 : Nat} {A : Nat → Prop} {H : Heap} {locs : List Loc} {ls : Array Slot} (hC : lS p l s m meth c b L xs D dA e0 A) {h : Nat} {ad : Nat → Nat} {x : VS} {mm : Nat} {mad : Nat → Nat} {M M1 : MS} {o : Nat} {og : Nat → Int64} {i fr1 lo1 fr2 lo2 mc9 ms9 cells slots : Nat} {F9 : VS → Prop} (hi : i + 6 ≤ L) (hL : L ≤ 3072) (hfr : fr1 ≤ 2000 ∧ lo1 ≤ 80000 ∧ fr2 ≤ 2000 ∧ lo2 ≤ 80000) (hrm : cells + mc9 ≤ 601024 ∧ slots + ms9 ≤ 7293034) (hcod : M1.cod = 0) (hW : ∀ sz : Nat, Met l ⟨"SeriesVaultLaw", "end", "(LSeriesVault;I)I"⟩ [Cond.codeWith ⟨"SeriesVaultLaw", "end", "(LSeriesVault;I)I"⟩ method_4_code 3 (some FieldType.int) [(0, 5, 8, 19)]] { frames := fr1, cells := mc9, slots := ms9, locals := lo1 } (pC D dA [.ref h, .int (xs (i + 1))] (VW dA h ad x) sz) (va_Qi (fun (r9 : Int32) (u9 : VS) => r9 = 0 ∧ F9 u9) (fun (u9 : VS) t9 => bW D (va_A (VW dA h ad x) sz) (VW dA h ad u9) t9) (va_A (VW dA h ad x) sz)) mc9 ms9 (va_A (VW dA h ad x) sz)) (hM : ∀ sz : Nat, Met l ⟨"SeriesVaultModel", "end", "(I)V"⟩ [Cond.code ⟨"SeriesVaultModel", "end", "(I)V"⟩ prog_14_method_4_code 2 none] { frames := fr2, cells := 0, slots := 0, locals := lo2 } (pC D dA [.ref mm, .int (xs (i + 1))] (MW dA mm mad M) sz) (va_Qv (fun (u9 : Unit) => True) (fun (u9 : Unit) t9 => bW D (va_A (MW dA mm mad M) sz) (MW dA mm mad M1) t9) (va_A (MW dA mm mad M) sz)) 0 0 (va_A (MW dA mm mad M) sz)) (hP : va_P D vwCl (MW dA mm mad M ++ (([(o, .inl (dA 2, 1, .inr (.inl og)))] : va_W) ++ (VW dA h ad x))) H) (hD : va_D A (MW dA mm mad M ++ (([(o, .inl (dA 2, 1, .inr (.inl og)))] : va_W) ++ (VW dA h ad x)))) (hS : va_S A s.heap H locs) (hl : lv_has ls 8 [(4, .int (nI i)), (3, .ref o), (2, .ref mm), (1, .ref h), (0, .ref b)]) (cont : ∀ (u : VS) (H1 : Heap) (locs1 : List Loc) (ls1 : Array Slot), F9 u → va_P D vwCl (MW dA mm mad M1 ++ (([(o, .inl (dA 2, 1, .inr (.inl og)))] : va_W) ++ (VW dA h ad u))) H1 → va_D A (MW dA mm mad M1 ++ (([(o, .inl (dA 2, 1, .inr (.inl og)))] : va_W) ++ (VW dA h ad u))) → va_S A s.heap H1 locs1 → lv_has ls1 8 [(4, .int (nI (i + 6))), (3, .ref o), (2, .ref mm), (1, .ref h), (0, .ref b)] → W p l e room_1 s m #[Value.ref b] below meth c H1 locs1 (cells + mc9 + 0 + 0) (slots + ms9 + 0 + 0) (lw_Z below #[Value.ref b] s) (F0 m 23 ls1 [])) : W p l e room_1 s m #[Value.ref b] below meth c H locs cells slots (lw_Z below #[Value.ref b] s) (F0 m 260 ls []) := by
  have hC0 := hC
  obtain ⟨hx, hb, hr, hml, hown, hlk, hE, hK, hA, hN, hZ, hT, hX, hbl, hbA, hnew, htr⟩ := hC
  refine lv_aload_n hx hb d_SeriesVaultLaw_law_260 rfl (lv_at hl 3 rfl) ?_
  refine lv_aload_n hx hb d_SeriesVaultLaw_law_261 rfl (lv_at hl 4 rfl) ?_
  refine lv_iload hx hb d_SeriesVaultLaw_law_262 (lv_at hl 0 rfl) ?_
  refine lv_iconst (v := 1) hx hb d_SeriesVaultLaw_law_264 (by decide) ?_
  refine lv_iadd hx hb d_SeriesVaultLaw_law_265 (tpi (y := nI (i + 1)) (nI_add (i) (1)) ?_)
  refine sldN hx hb hX hbl hbA hS (show i + 1 < L by omega) (show L ≤ 65536 by omega) d_SeriesVaultLaw_law_266 ?_
  have hPc : va_P D vwCl (VW dA h ad x) H := spP (wr := MW dA mm mad M ++ (([(o, .inl (dA 2, 1, .inr (.inl og)))] : va_W))) hP
  have hDc : va_D A (VW dA h ad x) := spD (wr := MW dA mm mad M ++ (([(o, .inl (dA 2, 1, .inr (.inl og)))] : va_W))) hD
  refine jkI (wr := MW dA mm mad M ++ (([(o, .inl (dA 2, 1, .inr (.inl og)))] : va_W))) (rnW (As := [.ref h, .int (xs (i + 1))]) (rest := []) hx hb hml hown hE hK (hN _ _ hS) hPc hDc (hW H.size) w1805 w1804 w1806 w1793 rfl rfl ⟨⟨by decide, by decide⟩, rfl⟩ ⟨(show fr1 + 1 ≤ 2048 by omega), (show 8 + (3 + 11) + lo1 ≤ 84000 by omega)⟩ rfl hl.1 rfl (Nat.le_of_ble_eq_true rfl) d_SeriesVaultLaw_law_267 ⟨(show cells + mc9 ≤ 601024 by omega), (show slots + ms9 ≤ 7293034 by omega)⟩) hP hD hS hA (fun k8 u8 H locs hp9 hP hD hS => ?_)
  obtain ⟨hp9, hf9⟩ := hp9
  replace hp9 : 0 = k8 := Eq.symm hp9
  subst hp9
  have hP : va_P D vwCl (MW dA mm mad M ++ (([(o, .inl (dA 2, 1, .inr (.inl og)))] : va_W) ++ (VW dA h ad u8))) H := hP
  have hD : va_D A (MW dA mm mad M ++ (([(o, .inl (dA 2, 1, .inr (.inl og)))] : va_W) ++ (VW dA h ad u8))) := hD
  refine lv_istore hx hb d_SeriesVaultLaw_law_270 hl (by decide) rfl (fun ls hl => ?_)
  have hl : lv_has ls 8 [(5, .int 0), (4, .int (nI i)), (3, .ref o), (2, .ref mm), (1, .ref h), (0, .ref b)] := hl
  refine lv_aload_n hx hb d_SeriesVaultLaw_law_272 rfl (lv_at hl 3 rfl) ?_
  refine lv_aload_n hx hb d_SeriesVaultLaw_law_273 rfl (lv_at hl 5 rfl) ?_
  refine lv_iload hx hb d_SeriesVaultLaw_law_274 (lv_at hl 1 rfl) ?_
  refine lv_iconst (v := 1) hx hb d_SeriesVaultLaw_law_276 (by decide) ?_
  refine lv_iadd hx hb d_SeriesVaultLaw_law_277 (tpi (y := nI (i + 1)) (nI_add (i) (1)) ?_)
  refine sldN hx hb hX hbl hbA hS (show i + 1 < L by omega) (show L ≤ 65536 by omega) d_SeriesVaultLaw_law_278 ?_
  have hP := pmP (show List.Perm (α := Nat × va_E) (MW dA mm mad M ++ (([(o, .inl (dA 2, 1, .inr (.inl og)))] : va_W) ++ (VW dA h ad u8))) (([(o, .inl (dA 2, 1, .inr (.inl og)))] : va_W) ++ (MW dA mm mad M ++ (VW dA h ad u8))) from List.perm_append_comm_assoc (MW dA mm mad M) (([(o, .inl (dA 2, 1, .inr (.inl og)))] : va_W)) (VW dA h ad u8)) hP
  have hD := pmD (show List.Perm (α := Nat × va_E) (MW dA mm mad M ++ (([(o, .inl (dA 2, 1, .inr (.inl og)))] : va_W) ++ (VW dA h ad u8))) (([(o, .inl (dA 2, 1, .inr (.inl og)))] : va_W) ++ (MW dA mm mad M ++ (VW dA h ad u8))) from List.perm_append_comm_assoc (MW dA mm mad M) (([(o, .inl (dA 2, 1, .inr (.inl og)))] : va_W)) (VW dA h ad u8)) hD
  have hP := pmP (show List.Perm (α := Nat × va_E) (([(o, .inl (dA 2, 1, .inr (.inl og)))] : va_W) ++ (MW dA mm mad M ++ (VW dA h ad u8))) (([(o, .inl (dA 2, 1, .inr (.inl og)))] : va_W) ++ (VW dA h ad u8 ++ (MW dA mm mad M))) from List.Perm.append_left (([(o, .inl (dA 2, 1, .inr (.inl og)))] : va_W)) (List.perm_append_comm)) hP
  have hD := pmD (show List.Perm (α := Nat × va_E) (([(o, .inl (dA 2, 1, .inr (.inl og)))] : va_W) ++ (MW dA mm mad M ++ (VW dA h ad u8))) (([(o, .inl (dA 2, 1, .inr (.inl og)))] : va_W) ++ (VW dA h ad u8 ++ (MW dA mm mad M))) from List.Perm.append_left (([(o, .inl (dA 2, 1, .inr (.inl og)))] : va_W)) (List.perm_append_comm)) hD
  have hPc : va_P D vwCl (MW dA mm mad M) H := spP (wr := ([(o, .inl (dA 2, 1, .inr (.inl og)))] : va_W) ++ (VW dA h ad u8)) hP
  have hDc : va_D A (MW dA mm mad M) := spD (wr := ([(o, .inl (dA 2, 1, .inr (.inl og)))] : va_W) ++ (VW dA h ad u8)) hD
  refine jkV (wr := ([(o, .inl (dA 2, 1, .inr (.inl og)))] : va_W) ++ (VW dA h ad u8)) (rnV (As := [.int (xs (i + 1))]) (rest := []) hx hb hml hown hE hK (hN _ _ hS) hPc hDc (hM H.size) (q0 := 0) rfl rfl w1808 w1807 w1809 w1810 w328 rfl rfl ⟨⟨by decide, by decide⟩, rfl⟩ ⟨(show fr2 + 1 ≤ 2048 by omega), (show 8 + (2 + 11) + lo2 ≤ 84000 by omega)⟩ rfl hl.1 rfl (Nat.le_of_ble_eq_true rfl) d_SeriesVaultLaw_law_279 ⟨(show cells + mc9 + 0 ≤ 601024 by omega), (show slots + ms9 + 0 ≤ 7293034 by omega)⟩) hP hD hS hA (fun u7 H locs hp9 hP hD hS => ?_)
  have hP : va_P D vwCl (([(o, .inl (dA 2, 1, .inr (.inl og)))] : va_W) ++ (VW dA h ad u8 ++ (MW dA mm mad M1))) H := hP
  have hD : va_D A (([(o, .inl (dA 2, 1, .inr (.inl og)))] : va_W) ++ (VW dA h ad u8 ++ (MW dA mm mad M1))) := hD
  refine lv_aload_n hx hb d_SeriesVaultLaw_law_282 rfl (lv_at hl 3 rfl) ?_
  have hPc : va_P D vwCl (MW dA mm mad M1) H := spP (wr := ([(o, .inl (dA 2, 1, .inr (.inl og)))] : va_W) ++ (VW dA h ad u8)) hP
  have hDc : va_D A (MW dA mm mad M1) := spD (wr := ([(o, .inl (dA 2, 1, .inr (.inl og)))] : va_W) ++ (VW dA h ad u8)) hD
  refine jkI (wr := ([(o, .inl (dA 2, 1, .inr (.inl og)))] : va_W) ++ (VW dA h ad u8)) (rnV (As := []) (rest := []) hx hb hml hown hE hK (hN _ _ hS) hPc hDc (k_thrown l D dA H.size mm mad M1) (q0 := 0) rfl rfl w1801 w1800 w1802 w1803 w328 rfl rfl ⟨⟨by decide, by decide⟩, rfl⟩ ⟨(show 1 + 1 ≤ 2048 by omega), (show 8 + (1 + 11) + 0 ≤ 84000 by omega)⟩ rfl hl.1 rfl (Nat.le_of_ble_eq_true rfl) d_SeriesVaultLaw_law_283 ⟨(show cells + mc9 + 0 ≤ 601024 by omega), (show slots + ms9 + 0 ≤ 7293034 by omega)⟩) hP hD hS hA (fun r7 u7 H locs hp9 hP hD hS => ?_)
  replace hp9 : 0 = r7 := Eq.symm (hp9.trans hcod)
  subst hp9
  have hP : va_P D vwCl (([(o, .inl (dA 2, 1, .inr (.inl og)))] : va_W) ++ (VW dA h ad u8 ++ (MW dA mm mad M1))) H := hP
  have hD : va_D A (([(o, .inl (dA 2, 1, .inr (.inl og)))] : va_W) ++ (VW dA h ad u8 ++ (MW dA mm mad M1))) := hD
  refine lv_iload hx hb d_SeriesVaultLaw_law_286 (lv_at hl 0 rfl) ?_
  refine lv_icmp_eq hx hb d_SeriesVaultLaw_law_288 (tgt := 293) rfl (fun _ => ?_) (fun h9 => absurd rfl h9)
  refine lv_goto hx hb d_SeriesVaultLaw_law_293 (tgt := 1770) rfl ?_
  refine lv_iinc (k := 1) (v := nI (i + 6)) hx hb d_SeriesVaultLaw_law_1770 hl rfl (iincN (i) 6 6 (by decide)) (by decide) rfl (fun ls hl => ?_)
  have hl : lv_has ls 8 [(4, .int (nI (i + 6))), (5, .int 0), (3, .ref o), (2, .ref mm), (1, .ref h), (0, .ref b)] := hl
  refine lv_goto hx hb d_SeriesVaultLaw_law_1773 (tgt := 23) rfl ?_
  have hP := pmP (show List.Perm (α := Nat × va_E) (([(o, .inl (dA 2, 1, .inr (.inl og)))] : va_W) ++ (VW dA h ad u8 ++ (MW dA mm mad M1))) (MW dA mm mad M1 ++ (([(o, .inl (dA 2, 1, .inr (.inl og)))] : va_W) ++ (VW dA h ad u8))) from (List.Perm.append_left (([(o, .inl (dA 2, 1, .inr (.inl og)))] : va_W)) (List.perm_append_comm)).trans (List.perm_append_comm_assoc (([(o, .inl (dA 2, 1, .inr (.inl og)))] : va_W)) (MW dA mm mad M1) (VW dA h ad u8))) hP
  have hD := pmD (show List.Perm (α := Nat × va_E) (([(o, .inl (dA 2, 1, .inr (.inl og)))] : va_W) ++ (VW dA h ad u8 ++ (MW dA mm mad M1))) (MW dA mm mad M1 ++ (([(o, .inl (dA 2, 1, .inr (.inl og)))] : va_W) ++ (VW dA h ad u8))) from (List.Perm.append_left (([(o, .inl (dA 2, 1, .inr (.inl og)))] : va_W)) (List.perm_append_comm)).trans (List.perm_append_comm_assoc (([(o, .inl (dA 2, 1, .inr (.inl og)))] : va_W)) (MW dA mm mad M1) (VW dA h ad u8))) hD
  have hP : va_P D vwCl (MW dA mm mad M1 ++ (([(o, .inl (dA 2, 1, .inr (.inl og)))] : va_W) ++ (VW dA h ad u8))) H := hP
  have hD : va_D A (MW dA mm mad M1 ++ (([(o, .inl (dA 2, 1, .inr (.inl og)))] : va_W) ++ (VW dA h ad u8))) := hD
  have hl := lv_sub (l' := [(4, .int (nI (i + 6))), (3, .ref o), (2, .ref mm), (1, .ref h), (0, .ref b)]) hl [0, 2, 3, 4, 5] rfl
  exact cont u8 H locs ls hf9 hP hD hS hl
set_option maxHeartbeats 4000000 in
set_option maxRecDepth 100000 in
theorem l9_1_x {p : Program} {e : Env} {s : State} {m : MethodId} {below : List Frame} {meth : Method} {c : Code} (l : Launch) {b L : Nat} {xs : Nat → Int32} {D : va_G} {dA : Nat → ClassId} {e0 : Nat} {A : Nat → Prop} {H : Heap} {locs : List Loc} {ls : Array Slot} (hC : lS p l s m meth c b L xs D dA e0 A) {h : Nat} {ad : Nat → Nat} {x : VS} {mm : Nat} {mad : Nat → Nat} {M M1 : MS} {o : Nat} {og : Nat → Int64} {i fr1 lo1 fr2 lo2 mc9 ms9 cells slots : Nat} {F9 : VS → Prop} {k9 : Nat} (hi : i + 6 ≤ L) (hL : L ≤ 3072) (hfr : fr1 ≤ 2000 ∧ lo1 ≤ 80000 ∧ fr2 ≤ 2000 ∧ lo2 ≤ 80000) (hrm : cells + mc9 ≤ 601024 ∧ slots + ms9 ≤ 7293034) (hcod : M1.cod = nI k9) (hk9 : ¬ nI k9 = 0) (hW : ∀ sz : Nat, Met l ⟨"SeriesVaultLaw", "end", "(LSeriesVault;I)I"⟩ [Cond.codeWith ⟨"SeriesVaultLaw", "end", "(LSeriesVault;I)I"⟩ method_4_code 3 (some FieldType.int) [(0, 5, 8, 19)]] { frames := fr1, cells := mc9, slots := ms9, locals := lo1 } (pC D dA [.ref h, .int (xs (i + 1))] (VW dA h ad x) sz) (va_Qi (fun (r9 : Int32) (u9 : VS) => r9 = nI k9 ∧ F9 u9) (fun (u9 : VS) t9 => bW D (va_A (VW dA h ad x) sz) (VW dA h ad u9) t9) (va_A (VW dA h ad x) sz)) mc9 ms9 (va_A (VW dA h ad x) sz)) (hM : ∀ sz : Nat, Met l ⟨"SeriesVaultModel", "end", "(I)V"⟩ [Cond.code ⟨"SeriesVaultModel", "end", "(I)V"⟩ prog_14_method_4_code 2 none] { frames := fr2, cells := 0, slots := 0, locals := lo2 } (pC D dA [.ref mm, .int (xs (i + 1))] (MW dA mm mad M) sz) (va_Qv (fun (u9 : Unit) => True) (fun (u9 : Unit) t9 => bW D (va_A (MW dA mm mad M) sz) (MW dA mm mad M1) t9) (va_A (MW dA mm mad M) sz)) 0 0 (va_A (MW dA mm mad M) sz)) (hP : va_P D vwCl (MW dA mm mad M ++ (([(o, .inl (dA 2, 1, .inr (.inl og)))] : va_W) ++ (VW dA h ad x))) H) (hD : va_D A (MW dA mm mad M ++ (([(o, .inl (dA 2, 1, .inr (.inl og)))] : va_W) ++ (VW dA h ad x)))) (hS : va_S A s.heap H locs) (hl : lv_has ls 8 [(4, .int (nI i)), (3, .ref o), (2, .ref mm), (1, .ref h), (0, .ref b)]) (cont : ∀ (u : VS) (H1 : Heap) (locs1 : List Loc) (ls1 : Array Slot), F9 u → va_P D vwCl (MW dA mm mad M1 ++ (([(o, .inl (dA 2, 1, .inr (.inl og)))] : va_W) ++ (VW dA h ad u))) H1 → va_D A (MW dA mm mad M1 ++ (([(o, .inl (dA 2, 1, .inr (.inl og)))] : va_W) ++ (VW dA h ad u))) → va_S A s.heap H1 locs1 → lv_has ls1 8 [(4, .int (nI (i + 6))), (3, .ref o), (2, .ref mm), (1, .ref h), (0, .ref b)] → W p l e room_1 s m #[Value.ref b] below meth c H1 locs1 (cells + mc9 + 0 + 0) (slots + ms9 + 0 + 0) (lw_Z below #[Value.ref b] s) (F0 m 23 ls1 [])) : W p l e room_1 s m #[Value.ref b] below meth c H locs cells slots (lw_Z below #[Value.ref b] s) (F0 m 260 ls []) := by
  have hC0 := hC
  obtain ⟨hx, hb, hr, hml, hown, hlk, hE, hK, hA, hN, hZ, hT, hX, hbl, hbA, hnew, htr⟩ := hC
  refine lv_aload_n hx hb d_SeriesVaultLaw_law_260 rfl (lv_at hl 3 rfl) ?_
  refine lv_aload_n hx hb d_SeriesVaultLaw_law_261 rfl (lv_at hl 4 rfl) ?_
  refine lv_iload hx hb d_SeriesVaultLaw_law_262 (lv_at hl 0 rfl) ?_
  refine lv_iconst (v := 1) hx hb d_SeriesVaultLaw_law_264 (by decide) ?_
  refine lv_iadd hx hb d_SeriesVaultLaw_law_265 (tpi (y := nI (i + 1)) (nI_add (i) (1)) ?_)
  refine sldN hx hb hX hbl hbA hS (show i + 1 < L by omega) (show L ≤ 65536 by omega) d_SeriesVaultLaw_law_266 ?_
  have hPc : va_P D vwCl (VW dA h ad x) H := spP (wr := MW dA mm mad M ++ (([(o, .inl (dA 2, 1, .inr (.inl og)))] : va_W))) hP
  have hDc : va_D A (VW dA h ad x) := spD (wr := MW dA mm mad M ++ (([(o, .inl (dA 2, 1, .inr (.inl og)))] : va_W))) hD
  refine jkI (wr := MW dA mm mad M ++ (([(o, .inl (dA 2, 1, .inr (.inl og)))] : va_W))) (rnW (As := [.ref h, .int (xs (i + 1))]) (rest := []) hx hb hml hown hE hK (hN _ _ hS) hPc hDc (hW H.size) w1805 w1804 w1806 w1793 rfl rfl ⟨⟨by decide, by decide⟩, rfl⟩ ⟨(show fr1 + 1 ≤ 2048 by omega), (show 8 + (3 + 11) + lo1 ≤ 84000 by omega)⟩ rfl hl.1 rfl (Nat.le_of_ble_eq_true rfl) d_SeriesVaultLaw_law_267 ⟨(show cells + mc9 ≤ 601024 by omega), (show slots + ms9 ≤ 7293034 by omega)⟩) hP hD hS hA (fun k8 u8 H locs hp9 hP hD hS => ?_)
  obtain ⟨hp9, hf9⟩ := hp9
  replace hp9 : nI k9 = k8 := Eq.symm hp9
  subst hp9
  have hP : va_P D vwCl (MW dA mm mad M ++ (([(o, .inl (dA 2, 1, .inr (.inl og)))] : va_W) ++ (VW dA h ad u8))) H := hP
  have hD : va_D A (MW dA mm mad M ++ (([(o, .inl (dA 2, 1, .inr (.inl og)))] : va_W) ++ (VW dA h ad u8))) := hD
  refine lv_istore hx hb d_SeriesVaultLaw_law_270 hl (by decide) rfl (fun ls hl => ?_)
  have hl : lv_has ls 8 [(5, .int (nI k9)), (4, .int (nI i)), (3, .ref o), (2, .ref mm), (1, .ref h), (0, .ref b)] := hl
  refine lv_aload_n hx hb d_SeriesVaultLaw_law_272 rfl (lv_at hl 3 rfl) ?_
  refine lv_aload_n hx hb d_SeriesVaultLaw_law_273 rfl (lv_at hl 5 rfl) ?_
  refine lv_iload hx hb d_SeriesVaultLaw_law_274 (lv_at hl 1 rfl) ?_
  refine lv_iconst (v := 1) hx hb d_SeriesVaultLaw_law_276 (by decide) ?_
  refine lv_iadd hx hb d_SeriesVaultLaw_law_277 (tpi (y := nI (i + 1)) (nI_add (i) (1)) ?_)
  refine sldN hx hb hX hbl hbA hS (show i + 1 < L by omega) (show L ≤ 65536 by omega) d_SeriesVaultLaw_law_278 ?_
  have hP := pmP (show List.Perm (α := Nat × va_E) (MW dA mm mad M ++ (([(o, .inl (dA 2, 1, .inr (.inl og)))] : va_W) ++ (VW dA h ad u8))) (([(o, .inl (dA 2, 1, .inr (.inl og)))] : va_W) ++ (MW dA mm mad M ++ (VW dA h ad u8))) from List.perm_append_comm_assoc (MW dA mm mad M) (([(o, .inl (dA 2, 1, .inr (.inl og)))] : va_W)) (VW dA h ad u8)) hP
  have hD := pmD (show List.Perm (α := Nat × va_E) (MW dA mm mad M ++ (([(o, .inl (dA 2, 1, .inr (.inl og)))] : va_W) ++ (VW dA h ad u8))) (([(o, .inl (dA 2, 1, .inr (.inl og)))] : va_W) ++ (MW dA mm mad M ++ (VW dA h ad u8))) from List.perm_append_comm_assoc (MW dA mm mad M) (([(o, .inl (dA 2, 1, .inr (.inl og)))] : va_W)) (VW dA h ad u8)) hD
  have hP := pmP (show List.Perm (α := Nat × va_E) (([(o, .inl (dA 2, 1, .inr (.inl og)))] : va_W) ++ (MW dA mm mad M ++ (VW dA h ad u8))) (([(o, .inl (dA 2, 1, .inr (.inl og)))] : va_W) ++ (VW dA h ad u8 ++ (MW dA mm mad M))) from List.Perm.append_left (([(o, .inl (dA 2, 1, .inr (.inl og)))] : va_W)) (List.perm_append_comm)) hP
  have hD := pmD (show List.Perm (α := Nat × va_E) (([(o, .inl (dA 2, 1, .inr (.inl og)))] : va_W) ++ (MW dA mm mad M ++ (VW dA h ad u8))) (([(o, .inl (dA 2, 1, .inr (.inl og)))] : va_W) ++ (VW dA h ad u8 ++ (MW dA mm mad M))) from List.Perm.append_left (([(o, .inl (dA 2, 1, .inr (.inl og)))] : va_W)) (List.perm_append_comm)) hD
  have hPc : va_P D vwCl (MW dA mm mad M) H := spP (wr := ([(o, .inl (dA 2, 1, .inr (.inl og)))] : va_W) ++ (VW dA h ad u8)) hP
  have hDc : va_D A (MW dA mm mad M) := spD (wr := ([(o, .inl (dA 2, 1, .inr (.inl og)))] : va_W) ++ (VW dA h ad u8)) hD
  refine jkV (wr := ([(o, .inl (dA 2, 1, .inr (.inl og)))] : va_W) ++ (VW dA h ad u8)) (rnV (As := [.int (xs (i + 1))]) (rest := []) hx hb hml hown hE hK (hN _ _ hS) hPc hDc (hM H.size) (q0 := 0) rfl rfl w1808 w1807 w1809 w1810 w328 rfl rfl ⟨⟨by decide, by decide⟩, rfl⟩ ⟨(show fr2 + 1 ≤ 2048 by omega), (show 8 + (2 + 11) + lo2 ≤ 84000 by omega)⟩ rfl hl.1 rfl (Nat.le_of_ble_eq_true rfl) d_SeriesVaultLaw_law_279 ⟨(show cells + mc9 + 0 ≤ 601024 by omega), (show slots + ms9 + 0 ≤ 7293034 by omega)⟩) hP hD hS hA (fun u7 H locs hp9 hP hD hS => ?_)
  have hP : va_P D vwCl (([(o, .inl (dA 2, 1, .inr (.inl og)))] : va_W) ++ (VW dA h ad u8 ++ (MW dA mm mad M1))) H := hP
  have hD : va_D A (([(o, .inl (dA 2, 1, .inr (.inl og)))] : va_W) ++ (VW dA h ad u8 ++ (MW dA mm mad M1))) := hD
  refine lv_aload_n hx hb d_SeriesVaultLaw_law_282 rfl (lv_at hl 3 rfl) ?_
  have hPc : va_P D vwCl (MW dA mm mad M1) H := spP (wr := ([(o, .inl (dA 2, 1, .inr (.inl og)))] : va_W) ++ (VW dA h ad u8)) hP
  have hDc : va_D A (MW dA mm mad M1) := spD (wr := ([(o, .inl (dA 2, 1, .inr (.inl og)))] : va_W) ++ (VW dA h ad u8)) hD
  refine jkI (wr := ([(o, .inl (dA 2, 1, .inr (.inl og)))] : va_W) ++ (VW dA h ad u8)) (rnV (As := []) (rest := []) hx hb hml hown hE hK (hN _ _ hS) hPc hDc (k_thrown l D dA H.size mm mad M1) (q0 := 0) rfl rfl w1801 w1800 w1802 w1803 w328 rfl rfl ⟨⟨by decide, by decide⟩, rfl⟩ ⟨(show 1 + 1 ≤ 2048 by omega), (show 8 + (1 + 11) + 0 ≤ 84000 by omega)⟩ rfl hl.1 rfl (Nat.le_of_ble_eq_true rfl) d_SeriesVaultLaw_law_283 ⟨(show cells + mc9 + 0 ≤ 601024 by omega), (show slots + ms9 + 0 ≤ 7293034 by omega)⟩) hP hD hS hA (fun r7 u7 H locs hp9 hP hD hS => ?_)
  replace hp9 : nI k9 = r7 := Eq.symm (hp9.trans hcod)
  subst hp9
  have hP : va_P D vwCl (([(o, .inl (dA 2, 1, .inr (.inl og)))] : va_W) ++ (VW dA h ad u8 ++ (MW dA mm mad M1))) H := hP
  have hD : va_D A (([(o, .inl (dA 2, 1, .inr (.inl og)))] : va_W) ++ (VW dA h ad u8 ++ (MW dA mm mad M1))) := hD
  refine lv_iload hx hb d_SeriesVaultLaw_law_286 (lv_at hl 0 rfl) ?_
  refine lv_icmp_eq hx hb d_SeriesVaultLaw_law_288 (tgt := 293) rfl (fun _ => ?_) (fun h9 => absurd rfl h9)
  refine lv_goto hx hb d_SeriesVaultLaw_law_293 (tgt := 1770) rfl ?_
  refine lv_iinc (k := 1) (v := nI (i + 6)) hx hb d_SeriesVaultLaw_law_1770 hl rfl (iincN (i) 6 6 (by decide)) (by decide) rfl (fun ls hl => ?_)
  have hl : lv_has ls 8 [(4, .int (nI (i + 6))), (5, .int (nI k9)), (3, .ref o), (2, .ref mm), (1, .ref h), (0, .ref b)] := hl
  refine lv_goto hx hb d_SeriesVaultLaw_law_1773 (tgt := 23) rfl ?_
  have hP := pmP (show List.Perm (α := Nat × va_E) (([(o, .inl (dA 2, 1, .inr (.inl og)))] : va_W) ++ (VW dA h ad u8 ++ (MW dA mm mad M1))) (MW dA mm mad M1 ++ (([(o, .inl (dA 2, 1, .inr (.inl og)))] : va_W) ++ (VW dA h ad u8))) from (List.Perm.append_left (([(o, .inl (dA 2, 1, .inr (.inl og)))] : va_W)) (List.perm_append_comm)).trans (List.perm_append_comm_assoc (([(o, .inl (dA 2, 1, .inr (.inl og)))] : va_W)) (MW dA mm mad M1) (VW dA h ad u8))) hP
  have hD := pmD (show List.Perm (α := Nat × va_E) (([(o, .inl (dA 2, 1, .inr (.inl og)))] : va_W) ++ (VW dA h ad u8 ++ (MW dA mm mad M1))) (MW dA mm mad M1 ++ (([(o, .inl (dA 2, 1, .inr (.inl og)))] : va_W) ++ (VW dA h ad u8))) from (List.Perm.append_left (([(o, .inl (dA 2, 1, .inr (.inl og)))] : va_W)) (List.perm_append_comm)).trans (List.perm_append_comm_assoc (([(o, .inl (dA 2, 1, .inr (.inl og)))] : va_W)) (MW dA mm mad M1) (VW dA h ad u8))) hD
  have hP : va_P D vwCl (MW dA mm mad M1 ++ (([(o, .inl (dA 2, 1, .inr (.inl og)))] : va_W) ++ (VW dA h ad u8))) H := hP
  have hD : va_D A (MW dA mm mad M1 ++ (([(o, .inl (dA 2, 1, .inr (.inl og)))] : va_W) ++ (VW dA h ad u8))) := hD
  have hl := lv_sub (l' := [(4, .int (nI (i + 6))), (3, .ref o), (2, .ref mm), (1, .ref h), (0, .ref b)]) hl [0, 2, 3, 4, 5] rfl
  exact cont u8 H locs ls hf9 hP hD hS hl
theorem d_SeriesVaultLaw_law_296 : decode code 296 = .ok (.aload_n 1, 1) := by decide +kernel
theorem d_SeriesVaultLaw_law_297 : decode code 297 = .ok (.aload_n 0, 1) := by decide +kernel
theorem d_SeriesVaultLaw_law_298 : decode code 298 = .ok (.iload 4, 2) := by decide +kernel
theorem d_SeriesVaultLaw_law_300 : decode code 300 = .ok (.iconst 1, 1) := by decide +kernel
theorem d_SeriesVaultLaw_law_301 : decode code 301 = .ok (.iadd, 1) := by decide +kernel
theorem d_SeriesVaultLaw_law_302 : decode code 302 = .ok (.iaload, 1) := by decide +kernel
theorem d_SeriesVaultLaw_law_303 : decode code 303 = .ok (.aload_n 0, 1) := by decide +kernel
theorem d_SeriesVaultLaw_law_304 : decode code 304 = .ok (.iload 4, 2) := by decide +kernel
theorem d_SeriesVaultLaw_law_306 : decode code 306 = .ok (.iconst 2, 1) := by decide +kernel
theorem d_SeriesVaultLaw_law_307 : decode code 307 = .ok (.iadd, 1) := by decide +kernel
theorem d_SeriesVaultLaw_law_308 : decode code 308 = .ok (.iaload, 1) := by decide +kernel
theorem d_SeriesVaultLaw_law_309 : decode code 309 = .ok (.invokestatic 117, 3) := by decide +kernel
theorem d_SeriesVaultLaw_law_312 : decode code 312 = .ok (.istore 5, 2) := by decide +kernel
theorem d_SeriesVaultLaw_law_314 : decode code 314 = .ok (.aload_n 2, 1) := by decide +kernel
theorem d_SeriesVaultLaw_law_315 : decode code 315 = .ok (.aload_n 0, 1) := by decide +kernel
theorem d_SeriesVaultLaw_law_316 : decode code 316 = .ok (.iload 4, 2) := by decide +kernel
theorem d_SeriesVaultLaw_law_318 : decode code 318 = .ok (.iconst 1, 1) := by decide +kernel
theorem d_SeriesVaultLaw_law_319 : decode code 319 = .ok (.iadd, 1) := by decide +kernel
theorem d_SeriesVaultLaw_law_320 : decode code 320 = .ok (.iaload, 1) := by decide +kernel
theorem d_SeriesVaultLaw_law_321 : decode code 321 = .ok (.aload_n 0, 1) := by decide +kernel
theorem d_SeriesVaultLaw_law_322 : decode code 322 = .ok (.iload 4, 2) := by decide +kernel
theorem d_SeriesVaultLaw_law_324 : decode code 324 = .ok (.iconst 2, 1) := by decide +kernel
theorem d_SeriesVaultLaw_law_325 : decode code 325 = .ok (.iadd, 1) := by decide +kernel
theorem d_SeriesVaultLaw_law_326 : decode code 326 = .ok (.iaload, 1) := by decide +kernel
theorem d_SeriesVaultLaw_law_327 : decode code 327 = .ok (.invokevirtual 120, 3) := by decide +kernel
theorem d_SeriesVaultLaw_law_330 : decode code 330 = .ok (.aload_n 2, 1) := by decide +kernel
theorem d_SeriesVaultLaw_law_331 : decode code 331 = .ok (.invokevirtual 110, 3) := by decide +kernel
theorem d_SeriesVaultLaw_law_334 : decode code 334 = .ok (.iload 5, 2) := by decide +kernel
theorem d_SeriesVaultLaw_law_336 : decode code 336 = .ok (.if_icmp .eq 5, 3) := by decide +kernel
theorem d_SeriesVaultLaw_law_341 : decode code 341 = .ok (.goto 1429, 3) := by decide +kernel
theorem w1811 : Cond.methodLink "SeriesVaultLaw" 117 ⟨"SeriesVaultLaw", "format", "(LSeriesVault;II)I"⟩ ∈ aW := aw_of (tb_3 (List.mem_of_getElem? (i := 158) rfl)) rfl
theorem w1812 : Cond.codeWith ⟨"SeriesVaultLaw", "format", "(LSeriesVault;II)I"⟩ method_5_code 4 (some FieldType.int) [(0, 6, 9, 19)] ∈ aW := aw_of (tb_3 (List.mem_of_getElem? (i := 160) rfl)) rfl
theorem w1813 : Cond.static ⟨"SeriesVaultLaw", "format", "(LSeriesVault;II)I"⟩ ∈ aW := aw_of (tb_3 (List.mem_of_getElem? (i := 159) rfl)) rfl
theorem w1814 : Cond.methodLink "SeriesVaultLaw" 120 ⟨"SeriesVaultModel", "format", "(II)V"⟩ ∈ aW := aw_of (tb_9 (List.mem_of_getElem? (i := 188) rfl)) rfl
theorem w1815 : Cond.code ⟨"SeriesVaultModel", "format", "(II)V"⟩ prog_14_method_6_code 3 none ∈ aW := aw_of (tb_9 (List.mem_of_getElem? (i := 191) rfl)) rfl
theorem w1816 : Cond.instanceMethod ⟨"SeriesVaultModel", "format", "(II)V"⟩ ∈ aW := aw_of (tb_9 (List.mem_of_getElem? (i := 189) rfl)) rfl
theorem w1817 : Cond.selects "SeriesVaultModel" ⟨"SeriesVaultModel", "format", "(II)V"⟩ ⟨"SeriesVaultModel", "format", "(II)V"⟩ ∈ aW := aw_of (tb_9 (List.mem_of_getElem? (i := 190) rfl)) rfl
set_option maxHeartbeats 4000000 in
set_option maxRecDepth 100000 in
theorem l9_2 {p : Program} {e : Env} {s : State} {m : MethodId} {below : List Frame} {meth : Method} {c : Code} (l : Launch) {b L : Nat} {xs : Nat → Int32} {D : va_G} {dA : Nat → ClassId} {e0 : Nat} {A : Nat → Prop} {H : Heap} {locs : List Loc} {ls : Array Slot} (hC : lS p l s m meth c b L xs D dA e0 A) {h : Nat} {ad : Nat → Nat} {x : VS} {mm : Nat} {mad : Nat → Nat} {M M1 : MS} {o : Nat} {og : Nat → Int64} {i fr1 lo1 fr2 lo2 mc9 ms9 cells slots : Nat} {F9 : VS → Prop} (hi : i + 6 ≤ L) (hL : L ≤ 3072) (hfr : fr1 ≤ 2000 ∧ lo1 ≤ 80000 ∧ fr2 ≤ 2000 ∧ lo2 ≤ 80000) (hrm : cells + mc9 ≤ 601024 ∧ slots + ms9 ≤ 7293034) (hcod : M1.cod = 0) (hW : ∀ sz : Nat, Met l ⟨"SeriesVaultLaw", "format", "(LSeriesVault;II)I"⟩ [Cond.codeWith ⟨"SeriesVaultLaw", "format", "(LSeriesVault;II)I"⟩ method_5_code 4 (some FieldType.int) [(0, 6, 9, 19)]] { frames := fr1, cells := mc9, slots := ms9, locals := lo1 } (pC D dA [.ref h, .int (xs (i + 1)), .int (xs (i + 2))] (VW dA h ad x) sz) (va_Qi (fun (r9 : Int32) (u9 : VS) => r9 = 0 ∧ F9 u9) (fun (u9 : VS) t9 => bW D (va_A (VW dA h ad x) sz) (VW dA h ad u9) t9) (va_A (VW dA h ad x) sz)) mc9 ms9 (va_A (VW dA h ad x) sz)) (hM : ∀ sz : Nat, Met l ⟨"SeriesVaultModel", "format", "(II)V"⟩ [Cond.code ⟨"SeriesVaultModel", "format", "(II)V"⟩ prog_14_method_6_code 3 none] { frames := fr2, cells := 0, slots := 0, locals := lo2 } (pC D dA [.ref mm, .int (xs (i + 1)), .int (xs (i + 2))] (MW dA mm mad M) sz) (va_Qv (fun (u9 : Unit) => True) (fun (u9 : Unit) t9 => bW D (va_A (MW dA mm mad M) sz) (MW dA mm mad M1) t9) (va_A (MW dA mm mad M) sz)) 0 0 (va_A (MW dA mm mad M) sz)) (hP : va_P D vwCl (MW dA mm mad M ++ (([(o, .inl (dA 2, 1, .inr (.inl og)))] : va_W) ++ (VW dA h ad x))) H) (hD : va_D A (MW dA mm mad M ++ (([(o, .inl (dA 2, 1, .inr (.inl og)))] : va_W) ++ (VW dA h ad x)))) (hS : va_S A s.heap H locs) (hl : lv_has ls 8 [(4, .int (nI i)), (3, .ref o), (2, .ref mm), (1, .ref h), (0, .ref b)]) (cont : ∀ (u : VS) (H1 : Heap) (locs1 : List Loc) (ls1 : Array Slot), F9 u → va_P D vwCl (MW dA mm mad M1 ++ (([(o, .inl (dA 2, 1, .inr (.inl og)))] : va_W) ++ (VW dA h ad u))) H1 → va_D A (MW dA mm mad M1 ++ (([(o, .inl (dA 2, 1, .inr (.inl og)))] : va_W) ++ (VW dA h ad u))) → va_S A s.heap H1 locs1 → lv_has ls1 8 [(4, .int (nI (i + 6))), (3, .ref o), (2, .ref mm), (1, .ref h), (0, .ref b)] → W p l e room_1 s m #[Value.ref b] below meth c H1 locs1 (cells + mc9 + 0 + 0) (slots + ms9 + 0 + 0) (lw_Z below #[Value.ref b] s) (F0 m 23 ls1 [])) : W p l e room_1 s m #[Value.ref b] below meth c H locs cells slots (lw_Z below #[Value.ref b] s) (F0 m 296 ls []) := by
  have hC0 := hC
  obtain ⟨hx, hb, hr, hml, hown, hlk, hE, hK, hA, hN, hZ, hT, hX, hbl, hbA, hnew, htr⟩ := hC
  refine lv_aload_n hx hb d_SeriesVaultLaw_law_296 rfl (lv_at hl 3 rfl) ?_
  refine lv_aload_n hx hb d_SeriesVaultLaw_law_297 rfl (lv_at hl 4 rfl) ?_
  refine lv_iload hx hb d_SeriesVaultLaw_law_298 (lv_at hl 0 rfl) ?_
  refine lv_iconst (v := 1) hx hb d_SeriesVaultLaw_law_300 (by decide) ?_
  refine lv_iadd hx hb d_SeriesVaultLaw_law_301 (tpi (y := nI (i + 1)) (nI_add (i) (1)) ?_)
  refine sldN hx hb hX hbl hbA hS (show i + 1 < L by omega) (show L ≤ 65536 by omega) d_SeriesVaultLaw_law_302 ?_
  refine lv_aload_n hx hb d_SeriesVaultLaw_law_303 rfl (lv_at hl 4 rfl) ?_
  refine lv_iload hx hb d_SeriesVaultLaw_law_304 (lv_at hl 0 rfl) ?_
  refine lv_iconst (v := 2) hx hb d_SeriesVaultLaw_law_306 (by decide) ?_
  refine lv_iadd hx hb d_SeriesVaultLaw_law_307 (tpi (y := nI (i + 2)) (nI_add (i) (2)) ?_)
  refine sldN hx hb hX hbl hbA hS (show i + 2 < L by omega) (show L ≤ 65536 by omega) d_SeriesVaultLaw_law_308 ?_
  have hPc : va_P D vwCl (VW dA h ad x) H := spP (wr := MW dA mm mad M ++ (([(o, .inl (dA 2, 1, .inr (.inl og)))] : va_W))) hP
  have hDc : va_D A (VW dA h ad x) := spD (wr := MW dA mm mad M ++ (([(o, .inl (dA 2, 1, .inr (.inl og)))] : va_W))) hD
  refine jkI (wr := MW dA mm mad M ++ (([(o, .inl (dA 2, 1, .inr (.inl og)))] : va_W))) (rnW (As := [.ref h, .int (xs (i + 1)), .int (xs (i + 2))]) (rest := []) hx hb hml hown hE hK (hN _ _ hS) hPc hDc (hW H.size) w1812 w1811 w1813 w1793 rfl rfl ⟨⟨by decide, by decide⟩, rfl⟩ ⟨(show fr1 + 1 ≤ 2048 by omega), (show 8 + (4 + 11) + lo1 ≤ 84000 by omega)⟩ rfl hl.1 rfl (Nat.le_of_ble_eq_true rfl) d_SeriesVaultLaw_law_309 ⟨(show cells + mc9 ≤ 601024 by omega), (show slots + ms9 ≤ 7293034 by omega)⟩) hP hD hS hA (fun k8 u8 H locs hp9 hP hD hS => ?_)
  obtain ⟨hp9, hf9⟩ := hp9
  replace hp9 : 0 = k8 := Eq.symm hp9
  subst hp9
  have hP : va_P D vwCl (MW dA mm mad M ++ (([(o, .inl (dA 2, 1, .inr (.inl og)))] : va_W) ++ (VW dA h ad u8))) H := hP
  have hD : va_D A (MW dA mm mad M ++ (([(o, .inl (dA 2, 1, .inr (.inl og)))] : va_W) ++ (VW dA h ad u8))) := hD
  refine lv_istore hx hb d_SeriesVaultLaw_law_312 hl (by decide) rfl (fun ls hl => ?_)
  have hl : lv_has ls 8 [(5, .int 0), (4, .int (nI i)), (3, .ref o), (2, .ref mm), (1, .ref h), (0, .ref b)] := hl
  refine lv_aload_n hx hb d_SeriesVaultLaw_law_314 rfl (lv_at hl 3 rfl) ?_
  refine lv_aload_n hx hb d_SeriesVaultLaw_law_315 rfl (lv_at hl 5 rfl) ?_
  refine lv_iload hx hb d_SeriesVaultLaw_law_316 (lv_at hl 1 rfl) ?_
  refine lv_iconst (v := 1) hx hb d_SeriesVaultLaw_law_318 (by decide) ?_
  refine lv_iadd hx hb d_SeriesVaultLaw_law_319 (tpi (y := nI (i + 1)) (nI_add (i) (1)) ?_)
  refine sldN hx hb hX hbl hbA hS (show i + 1 < L by omega) (show L ≤ 65536 by omega) d_SeriesVaultLaw_law_320 ?_
  refine lv_aload_n hx hb d_SeriesVaultLaw_law_321 rfl (lv_at hl 5 rfl) ?_
  refine lv_iload hx hb d_SeriesVaultLaw_law_322 (lv_at hl 1 rfl) ?_
  refine lv_iconst (v := 2) hx hb d_SeriesVaultLaw_law_324 (by decide) ?_
  refine lv_iadd hx hb d_SeriesVaultLaw_law_325 (tpi (y := nI (i + 2)) (nI_add (i) (2)) ?_)
  refine sldN hx hb hX hbl hbA hS (show i + 2 < L by omega) (show L ≤ 65536 by omega) d_SeriesVaultLaw_law_326 ?_
  have hP := pmP (show List.Perm (α := Nat × va_E) (MW dA mm mad M ++ (([(o, .inl (dA 2, 1, .inr (.inl og)))] : va_W) ++ (VW dA h ad u8))) (([(o, .inl (dA 2, 1, .inr (.inl og)))] : va_W) ++ (MW dA mm mad M ++ (VW dA h ad u8))) from List.perm_append_comm_assoc (MW dA mm mad M) (([(o, .inl (dA 2, 1, .inr (.inl og)))] : va_W)) (VW dA h ad u8)) hP
  have hD := pmD (show List.Perm (α := Nat × va_E) (MW dA mm mad M ++ (([(o, .inl (dA 2, 1, .inr (.inl og)))] : va_W) ++ (VW dA h ad u8))) (([(o, .inl (dA 2, 1, .inr (.inl og)))] : va_W) ++ (MW dA mm mad M ++ (VW dA h ad u8))) from List.perm_append_comm_assoc (MW dA mm mad M) (([(o, .inl (dA 2, 1, .inr (.inl og)))] : va_W)) (VW dA h ad u8)) hD
  have hP := pmP (show List.Perm (α := Nat × va_E) (([(o, .inl (dA 2, 1, .inr (.inl og)))] : va_W) ++ (MW dA mm mad M ++ (VW dA h ad u8))) (([(o, .inl (dA 2, 1, .inr (.inl og)))] : va_W) ++ (VW dA h ad u8 ++ (MW dA mm mad M))) from List.Perm.append_left (([(o, .inl (dA 2, 1, .inr (.inl og)))] : va_W)) (List.perm_append_comm)) hP
  have hD := pmD (show List.Perm (α := Nat × va_E) (([(o, .inl (dA 2, 1, .inr (.inl og)))] : va_W) ++ (MW dA mm mad M ++ (VW dA h ad u8))) (([(o, .inl (dA 2, 1, .inr (.inl og)))] : va_W) ++ (VW dA h ad u8 ++ (MW dA mm mad M))) from List.Perm.append_left (([(o, .inl (dA 2, 1, .inr (.inl og)))] : va_W)) (List.perm_append_comm)) hD
  have hPc : va_P D vwCl (MW dA mm mad M) H := spP (wr := ([(o, .inl (dA 2, 1, .inr (.inl og)))] : va_W) ++ (VW dA h ad u8)) hP
  have hDc : va_D A (MW dA mm mad M) := spD (wr := ([(o, .inl (dA 2, 1, .inr (.inl og)))] : va_W) ++ (VW dA h ad u8)) hD
  refine jkV (wr := ([(o, .inl (dA 2, 1, .inr (.inl og)))] : va_W) ++ (VW dA h ad u8)) (rnV (As := [.int (xs (i + 1)), .int (xs (i + 2))]) (rest := []) hx hb hml hown hE hK (hN _ _ hS) hPc hDc (hM H.size) (q0 := 0) rfl rfl w1815 w1814 w1816 w1817 w328 rfl rfl ⟨⟨by decide, by decide⟩, rfl⟩ ⟨(show fr2 + 1 ≤ 2048 by omega), (show 8 + (3 + 11) + lo2 ≤ 84000 by omega)⟩ rfl hl.1 rfl (Nat.le_of_ble_eq_true rfl) d_SeriesVaultLaw_law_327 ⟨(show cells + mc9 + 0 ≤ 601024 by omega), (show slots + ms9 + 0 ≤ 7293034 by omega)⟩) hP hD hS hA (fun u7 H locs hp9 hP hD hS => ?_)
  have hP : va_P D vwCl (([(o, .inl (dA 2, 1, .inr (.inl og)))] : va_W) ++ (VW dA h ad u8 ++ (MW dA mm mad M1))) H := hP
  have hD : va_D A (([(o, .inl (dA 2, 1, .inr (.inl og)))] : va_W) ++ (VW dA h ad u8 ++ (MW dA mm mad M1))) := hD
  refine lv_aload_n hx hb d_SeriesVaultLaw_law_330 rfl (lv_at hl 3 rfl) ?_
  have hPc : va_P D vwCl (MW dA mm mad M1) H := spP (wr := ([(o, .inl (dA 2, 1, .inr (.inl og)))] : va_W) ++ (VW dA h ad u8)) hP
  have hDc : va_D A (MW dA mm mad M1) := spD (wr := ([(o, .inl (dA 2, 1, .inr (.inl og)))] : va_W) ++ (VW dA h ad u8)) hD
  refine jkI (wr := ([(o, .inl (dA 2, 1, .inr (.inl og)))] : va_W) ++ (VW dA h ad u8)) (rnV (As := []) (rest := []) hx hb hml hown hE hK (hN _ _ hS) hPc hDc (k_thrown l D dA H.size mm mad M1) (q0 := 0) rfl rfl w1801 w1800 w1802 w1803 w328 rfl rfl ⟨⟨by decide, by decide⟩, rfl⟩ ⟨(show 1 + 1 ≤ 2048 by omega), (show 8 + (1 + 11) + 0 ≤ 84000 by omega)⟩ rfl hl.1 rfl (Nat.le_of_ble_eq_true rfl) d_SeriesVaultLaw_law_331 ⟨(show cells + mc9 + 0 ≤ 601024 by omega), (show slots + ms9 + 0 ≤ 7293034 by omega)⟩) hP hD hS hA (fun r7 u7 H locs hp9 hP hD hS => ?_)
  replace hp9 : 0 = r7 := Eq.symm (hp9.trans hcod)
  subst hp9
  have hP : va_P D vwCl (([(o, .inl (dA 2, 1, .inr (.inl og)))] : va_W) ++ (VW dA h ad u8 ++ (MW dA mm mad M1))) H := hP
  have hD : va_D A (([(o, .inl (dA 2, 1, .inr (.inl og)))] : va_W) ++ (VW dA h ad u8 ++ (MW dA mm mad M1))) := hD
  refine lv_iload hx hb d_SeriesVaultLaw_law_334 (lv_at hl 0 rfl) ?_
  refine lv_icmp_eq hx hb d_SeriesVaultLaw_law_336 (tgt := 341) rfl (fun _ => ?_) (fun h9 => absurd rfl h9)
  refine lv_goto hx hb d_SeriesVaultLaw_law_341 (tgt := 1770) rfl ?_
  refine lv_iinc (k := 1) (v := nI (i + 6)) hx hb d_SeriesVaultLaw_law_1770 hl rfl (iincN (i) 6 6 (by decide)) (by decide) rfl (fun ls hl => ?_)
  have hl : lv_has ls 8 [(4, .int (nI (i + 6))), (5, .int 0), (3, .ref o), (2, .ref mm), (1, .ref h), (0, .ref b)] := hl
  refine lv_goto hx hb d_SeriesVaultLaw_law_1773 (tgt := 23) rfl ?_
  have hP := pmP (show List.Perm (α := Nat × va_E) (([(o, .inl (dA 2, 1, .inr (.inl og)))] : va_W) ++ (VW dA h ad u8 ++ (MW dA mm mad M1))) (MW dA mm mad M1 ++ (([(o, .inl (dA 2, 1, .inr (.inl og)))] : va_W) ++ (VW dA h ad u8))) from (List.Perm.append_left (([(o, .inl (dA 2, 1, .inr (.inl og)))] : va_W)) (List.perm_append_comm)).trans (List.perm_append_comm_assoc (([(o, .inl (dA 2, 1, .inr (.inl og)))] : va_W)) (MW dA mm mad M1) (VW dA h ad u8))) hP
  have hD := pmD (show List.Perm (α := Nat × va_E) (([(o, .inl (dA 2, 1, .inr (.inl og)))] : va_W) ++ (VW dA h ad u8 ++ (MW dA mm mad M1))) (MW dA mm mad M1 ++ (([(o, .inl (dA 2, 1, .inr (.inl og)))] : va_W) ++ (VW dA h ad u8))) from (List.Perm.append_left (([(o, .inl (dA 2, 1, .inr (.inl og)))] : va_W)) (List.perm_append_comm)).trans (List.perm_append_comm_assoc (([(o, .inl (dA 2, 1, .inr (.inl og)))] : va_W)) (MW dA mm mad M1) (VW dA h ad u8))) hD
  have hP : va_P D vwCl (MW dA mm mad M1 ++ (([(o, .inl (dA 2, 1, .inr (.inl og)))] : va_W) ++ (VW dA h ad u8))) H := hP
  have hD : va_D A (MW dA mm mad M1 ++ (([(o, .inl (dA 2, 1, .inr (.inl og)))] : va_W) ++ (VW dA h ad u8))) := hD
  have hl := lv_sub (l' := [(4, .int (nI (i + 6))), (3, .ref o), (2, .ref mm), (1, .ref h), (0, .ref b)]) hl [0, 2, 3, 4, 5] rfl
  exact cont u8 H locs ls hf9 hP hD hS hl
set_option maxHeartbeats 4000000 in
set_option maxRecDepth 100000 in
theorem l9_2_x {p : Program} {e : Env} {s : State} {m : MethodId} {below : List Frame} {meth : Method} {c : Code} (l : Launch) {b L : Nat} {xs : Nat → Int32} {D : va_G} {dA : Nat → ClassId} {e0 : Nat} {A : Nat → Prop} {H : Heap} {locs : List Loc} {ls : Array Slot} (hC : lS p l s m meth c b L xs D dA e0 A) {h : Nat} {ad : Nat → Nat} {x : VS} {mm : Nat} {mad : Nat → Nat} {M M1 : MS} {o : Nat} {og : Nat → Int64} {i fr1 lo1 fr2 lo2 mc9 ms9 cells slots : Nat} {F9 : VS → Prop} {k9 : Nat} (hi : i + 6 ≤ L) (hL : L ≤ 3072) (hfr : fr1 ≤ 2000 ∧ lo1 ≤ 80000 ∧ fr2 ≤ 2000 ∧ lo2 ≤ 80000) (hrm : cells + mc9 ≤ 601024 ∧ slots + ms9 ≤ 7293034) (hcod : M1.cod = nI k9) (hk9 : ¬ nI k9 = 0) (hW : ∀ sz : Nat, Met l ⟨"SeriesVaultLaw", "format", "(LSeriesVault;II)I"⟩ [Cond.codeWith ⟨"SeriesVaultLaw", "format", "(LSeriesVault;II)I"⟩ method_5_code 4 (some FieldType.int) [(0, 6, 9, 19)]] { frames := fr1, cells := mc9, slots := ms9, locals := lo1 } (pC D dA [.ref h, .int (xs (i + 1)), .int (xs (i + 2))] (VW dA h ad x) sz) (va_Qi (fun (r9 : Int32) (u9 : VS) => r9 = nI k9 ∧ F9 u9) (fun (u9 : VS) t9 => bW D (va_A (VW dA h ad x) sz) (VW dA h ad u9) t9) (va_A (VW dA h ad x) sz)) mc9 ms9 (va_A (VW dA h ad x) sz)) (hM : ∀ sz : Nat, Met l ⟨"SeriesVaultModel", "format", "(II)V"⟩ [Cond.code ⟨"SeriesVaultModel", "format", "(II)V"⟩ prog_14_method_6_code 3 none] { frames := fr2, cells := 0, slots := 0, locals := lo2 } (pC D dA [.ref mm, .int (xs (i + 1)), .int (xs (i + 2))] (MW dA mm mad M) sz) (va_Qv (fun (u9 : Unit) => True) (fun (u9 : Unit) t9 => bW D (va_A (MW dA mm mad M) sz) (MW dA mm mad M1) t9) (va_A (MW dA mm mad M) sz)) 0 0 (va_A (MW dA mm mad M) sz)) (hP : va_P D vwCl (MW dA mm mad M ++ (([(o, .inl (dA 2, 1, .inr (.inl og)))] : va_W) ++ (VW dA h ad x))) H) (hD : va_D A (MW dA mm mad M ++ (([(o, .inl (dA 2, 1, .inr (.inl og)))] : va_W) ++ (VW dA h ad x)))) (hS : va_S A s.heap H locs) (hl : lv_has ls 8 [(4, .int (nI i)), (3, .ref o), (2, .ref mm), (1, .ref h), (0, .ref b)]) (cont : ∀ (u : VS) (H1 : Heap) (locs1 : List Loc) (ls1 : Array Slot), F9 u → va_P D vwCl (MW dA mm mad M1 ++ (([(o, .inl (dA 2, 1, .inr (.inl og)))] : va_W) ++ (VW dA h ad u))) H1 → va_D A (MW dA mm mad M1 ++ (([(o, .inl (dA 2, 1, .inr (.inl og)))] : va_W) ++ (VW dA h ad u))) → va_S A s.heap H1 locs1 → lv_has ls1 8 [(4, .int (nI (i + 6))), (3, .ref o), (2, .ref mm), (1, .ref h), (0, .ref b)] → W p l e room_1 s m #[Value.ref b] below meth c H1 locs1 (cells + mc9 + 0 + 0) (slots + ms9 + 0 + 0) (lw_Z below #[Value.ref b] s) (F0 m 23 ls1 [])) : W p l e room_1 s m #[Value.ref b] below meth c H locs cells slots (lw_Z below #[Value.ref b] s) (F0 m 296 ls []) := by
  have hC0 := hC
  obtain ⟨hx, hb, hr, hml, hown, hlk, hE, hK, hA, hN, hZ, hT, hX, hbl, hbA, hnew, htr⟩ := hC
  refine lv_aload_n hx hb d_SeriesVaultLaw_law_296 rfl (lv_at hl 3 rfl) ?_
  refine lv_aload_n hx hb d_SeriesVaultLaw_law_297 rfl (lv_at hl 4 rfl) ?_
  refine lv_iload hx hb d_SeriesVaultLaw_law_298 (lv_at hl 0 rfl) ?_
  refine lv_iconst (v := 1) hx hb d_SeriesVaultLaw_law_300 (by decide) ?_
  refine lv_iadd hx hb d_SeriesVaultLaw_law_301 (tpi (y := nI (i + 1)) (nI_add (i) (1)) ?_)
  refine sldN hx hb hX hbl hbA hS (show i + 1 < L by omega) (show L ≤ 65536 by omega) d_SeriesVaultLaw_law_302 ?_
  refine lv_aload_n hx hb d_SeriesVaultLaw_law_303 rfl (lv_at hl 4 rfl) ?_
  refine lv_iload hx hb d_SeriesVaultLaw_law_304 (lv_at hl 0 rfl) ?_
  refine lv_iconst (v := 2) hx hb d_SeriesVaultLaw_law_306 (by decide) ?_
  refine lv_iadd hx hb d_SeriesVaultLaw_law_307 (tpi (y := nI (i + 2)) (nI_add (i) (2)) ?_)
  refine sldN hx hb hX hbl hbA hS (show i + 2 < L by omega) (show L ≤ 65536 by omega) d_SeriesVaultLaw_law_308 ?_
  have hPc : va_P D vwCl (VW dA h ad x) H := spP (wr := MW dA mm mad M ++ (([(o, .inl (dA 2, 1, .inr (.inl og)))] : va_W))) hP
  have hDc : va_D A (VW dA h ad x) := spD (wr := MW dA mm mad M ++ (([(o, .inl (dA 2, 1, .inr (.inl og)))] : va_W))) hD
  refine jkI (wr := MW dA mm mad M ++ (([(o, .inl (dA 2, 1, .inr (.inl og)))] : va_W))) (rnW (As := [.ref h, .int (xs (i + 1)), .int (xs (i + 2))]) (rest := []) hx hb hml hown hE hK (hN _ _ hS) hPc hDc (hW H.size) w1812 w1811 w1813 w1793 rfl rfl ⟨⟨by decide, by decide⟩, rfl⟩ ⟨(show fr1 + 1 ≤ 2048 by omega), (show 8 + (4 + 11) + lo1 ≤ 84000 by omega)⟩ rfl hl.1 rfl (Nat.le_of_ble_eq_true rfl) d_SeriesVaultLaw_law_309 ⟨(show cells + mc9 ≤ 601024 by omega), (show slots + ms9 ≤ 7293034 by omega)⟩) hP hD hS hA (fun k8 u8 H locs hp9 hP hD hS => ?_)
  obtain ⟨hp9, hf9⟩ := hp9
  replace hp9 : nI k9 = k8 := Eq.symm hp9
  subst hp9
  have hP : va_P D vwCl (MW dA mm mad M ++ (([(o, .inl (dA 2, 1, .inr (.inl og)))] : va_W) ++ (VW dA h ad u8))) H := hP
  have hD : va_D A (MW dA mm mad M ++ (([(o, .inl (dA 2, 1, .inr (.inl og)))] : va_W) ++ (VW dA h ad u8))) := hD
  refine lv_istore hx hb d_SeriesVaultLaw_law_312 hl (by decide) rfl (fun ls hl => ?_)
  have hl : lv_has ls 8 [(5, .int (nI k9)), (4, .int (nI i)), (3, .ref o), (2, .ref mm), (1, .ref h), (0, .ref b)] := hl
  refine lv_aload_n hx hb d_SeriesVaultLaw_law_314 rfl (lv_at hl 3 rfl) ?_
  refine lv_aload_n hx hb d_SeriesVaultLaw_law_315 rfl (lv_at hl 5 rfl) ?_
  refine lv_iload hx hb d_SeriesVaultLaw_law_316 (lv_at hl 1 rfl) ?_
  refine lv_iconst (v := 1) hx hb d_SeriesVaultLaw_law_318 (by decide) ?_
  refine lv_iadd hx hb d_SeriesVaultLaw_law_319 (tpi (y := nI (i + 1)) (nI_add (i) (1)) ?_)
  refine sldN hx hb hX hbl hbA hS (show i + 1 < L by omega) (show L ≤ 65536 by omega) d_SeriesVaultLaw_law_320 ?_
  refine lv_aload_n hx hb d_SeriesVaultLaw_law_321 rfl (lv_at hl 5 rfl) ?_
  refine lv_iload hx hb d_SeriesVaultLaw_law_322 (lv_at hl 1 rfl) ?_
  refine lv_iconst (v := 2) hx hb d_SeriesVaultLaw_law_324 (by decide) ?_
  refine lv_iadd hx hb d_SeriesVaultLaw_law_325 (tpi (y := nI (i + 2)) (nI_add (i) (2)) ?_)
  refine sldN hx hb hX hbl hbA hS (show i + 2 < L by omega) (show L ≤ 65536 by omega) d_SeriesVaultLaw_law_326 ?_
  have hP := pmP (show List.Perm (α := Nat × va_E) (MW dA mm mad M ++ (([(o, .inl (dA 2, 1, .inr (.inl og)))] : va_W) ++ (VW dA h ad u8))) (([(o, .inl (dA 2, 1, .inr (.inl og)))] : va_W) ++ (MW dA mm mad M ++ (VW dA h ad u8))) from List.perm_append_comm_assoc (MW dA mm mad M) (([(o, .inl (dA 2, 1, .inr (.inl og)))] : va_W)) (VW dA h ad u8)) hP
  have hD := pmD (show List.Perm (α := Nat × va_E) (MW dA mm mad M ++ (([(o, .inl (dA 2, 1, .inr (.inl og)))] : va_W) ++ (VW dA h ad u8))) (([(o, .inl (dA 2, 1, .inr (.inl og)))] : va_W) ++ (MW dA mm mad M ++ (VW dA h ad u8))) from List.perm_append_comm_assoc (MW dA mm mad M) (([(o, .inl (dA 2, 1, .inr (.inl og)))] : va_W)) (VW dA h ad u8)) hD
  have hP := pmP (show List.Perm (α := Nat × va_E) (([(o, .inl (dA 2, 1, .inr (.inl og)))] : va_W) ++ (MW dA mm mad M ++ (VW dA h ad u8))) (([(o, .inl (dA 2, 1, .inr (.inl og)))] : va_W) ++ (VW dA h ad u8 ++ (MW dA mm mad M))) from List.Perm.append_left (([(o, .inl (dA 2, 1, .inr (.inl og)))] : va_W)) (List.perm_append_comm)) hP
  have hD := pmD (show List.Perm (α := Nat × va_E) (([(o, .inl (dA 2, 1, .inr (.inl og)))] : va_W) ++ (MW dA mm mad M ++ (VW dA h ad u8))) (([(o, .inl (dA 2, 1, .inr (.inl og)))] : va_W) ++ (VW dA h ad u8 ++ (MW dA mm mad M))) from List.Perm.append_left (([(o, .inl (dA 2, 1, .inr (.inl og)))] : va_W)) (List.perm_append_comm)) hD
  have hPc : va_P D vwCl (MW dA mm mad M) H := spP (wr := ([(o, .inl (dA 2, 1, .inr (.inl og)))] : va_W) ++ (VW dA h ad u8)) hP
  have hDc : va_D A (MW dA mm mad M) := spD (wr := ([(o, .inl (dA 2, 1, .inr (.inl og)))] : va_W) ++ (VW dA h ad u8)) hD
  refine jkV (wr := ([(o, .inl (dA 2, 1, .inr (.inl og)))] : va_W) ++ (VW dA h ad u8)) (rnV (As := [.int (xs (i + 1)), .int (xs (i + 2))]) (rest := []) hx hb hml hown hE hK (hN _ _ hS) hPc hDc (hM H.size) (q0 := 0) rfl rfl w1815 w1814 w1816 w1817 w328 rfl rfl ⟨⟨by decide, by decide⟩, rfl⟩ ⟨(show fr2 + 1 ≤ 2048 by omega), (show 8 + (3 + 11) + lo2 ≤ 84000 by omega)⟩ rfl hl.1 rfl (Nat.le_of_ble_eq_true rfl) d_SeriesVaultLaw_law_327 ⟨(show cells + mc9 + 0 ≤ 601024 by omega), (show slots + ms9 + 0 ≤ 7293034 by omega)⟩) hP hD hS hA (fun u7 H locs hp9 hP hD hS => ?_)
  have hP : va_P D vwCl (([(o, .inl (dA 2, 1, .inr (.inl og)))] : va_W) ++ (VW dA h ad u8 ++ (MW dA mm mad M1))) H := hP
  have hD : va_D A (([(o, .inl (dA 2, 1, .inr (.inl og)))] : va_W) ++ (VW dA h ad u8 ++ (MW dA mm mad M1))) := hD
  refine lv_aload_n hx hb d_SeriesVaultLaw_law_330 rfl (lv_at hl 3 rfl) ?_
  have hPc : va_P D vwCl (MW dA mm mad M1) H := spP (wr := ([(o, .inl (dA 2, 1, .inr (.inl og)))] : va_W) ++ (VW dA h ad u8)) hP
  have hDc : va_D A (MW dA mm mad M1) := spD (wr := ([(o, .inl (dA 2, 1, .inr (.inl og)))] : va_W) ++ (VW dA h ad u8)) hD
  refine jkI (wr := ([(o, .inl (dA 2, 1, .inr (.inl og)))] : va_W) ++ (VW dA h ad u8)) (rnV (As := []) (rest := []) hx hb hml hown hE hK (hN _ _ hS) hPc hDc (k_thrown l D dA H.size mm mad M1) (q0 := 0) rfl rfl w1801 w1800 w1802 w1803 w328 rfl rfl ⟨⟨by decide, by decide⟩, rfl⟩ ⟨(show 1 + 1 ≤ 2048 by omega), (show 8 + (1 + 11) + 0 ≤ 84000 by omega)⟩ rfl hl.1 rfl (Nat.le_of_ble_eq_true rfl) d_SeriesVaultLaw_law_331 ⟨(show cells + mc9 + 0 ≤ 601024 by omega), (show slots + ms9 + 0 ≤ 7293034 by omega)⟩) hP hD hS hA (fun r7 u7 H locs hp9 hP hD hS => ?_)
  replace hp9 : nI k9 = r7 := Eq.symm (hp9.trans hcod)
  subst hp9
  have hP : va_P D vwCl (([(o, .inl (dA 2, 1, .inr (.inl og)))] : va_W) ++ (VW dA h ad u8 ++ (MW dA mm mad M1))) H := hP
  have hD : va_D A (([(o, .inl (dA 2, 1, .inr (.inl og)))] : va_W) ++ (VW dA h ad u8 ++ (MW dA mm mad M1))) := hD
  refine lv_iload hx hb d_SeriesVaultLaw_law_334 (lv_at hl 0 rfl) ?_
  refine lv_icmp_eq hx hb d_SeriesVaultLaw_law_336 (tgt := 341) rfl (fun _ => ?_) (fun h9 => absurd rfl h9)
  refine lv_goto hx hb d_SeriesVaultLaw_law_341 (tgt := 1770) rfl ?_
  refine lv_iinc (k := 1) (v := nI (i + 6)) hx hb d_SeriesVaultLaw_law_1770 hl rfl (iincN (i) 6 6 (by decide)) (by decide) rfl (fun ls hl => ?_)
  have hl : lv_has ls 8 [(4, .int (nI (i + 6))), (5, .int (nI k9)), (3, .ref o), (2, .ref mm), (1, .ref h), (0, .ref b)] := hl
  refine lv_goto hx hb d_SeriesVaultLaw_law_1773 (tgt := 23) rfl ?_
  have hP := pmP (show List.Perm (α := Nat × va_E) (([(o, .inl (dA 2, 1, .inr (.inl og)))] : va_W) ++ (VW dA h ad u8 ++ (MW dA mm mad M1))) (MW dA mm mad M1 ++ (([(o, .inl (dA 2, 1, .inr (.inl og)))] : va_W) ++ (VW dA h ad u8))) from (List.Perm.append_left (([(o, .inl (dA 2, 1, .inr (.inl og)))] : va_W)) (List.perm_append_comm)).trans (List.perm_append_comm_assoc (([(o, .inl (dA 2, 1, .inr (.inl og)))] : va_W)) (MW dA mm mad M1) (VW dA h ad u8))) hP
  have hD := pmD (show List.Perm (α := Nat × va_E) (([(o, .inl (dA 2, 1, .inr (.inl og)))] : va_W) ++ (VW dA h ad u8 ++ (MW dA mm mad M1))) (MW dA mm mad M1 ++ (([(o, .inl (dA 2, 1, .inr (.inl og)))] : va_W) ++ (VW dA h ad u8))) from (List.Perm.append_left (([(o, .inl (dA 2, 1, .inr (.inl og)))] : va_W)) (List.perm_append_comm)).trans (List.perm_append_comm_assoc (([(o, .inl (dA 2, 1, .inr (.inl og)))] : va_W)) (MW dA mm mad M1) (VW dA h ad u8))) hD
  have hP : va_P D vwCl (MW dA mm mad M1 ++ (([(o, .inl (dA 2, 1, .inr (.inl og)))] : va_W) ++ (VW dA h ad u8))) H := hP
  have hD : va_D A (MW dA mm mad M1 ++ (([(o, .inl (dA 2, 1, .inr (.inl og)))] : va_W) ++ (VW dA h ad u8))) := hD
  have hl := lv_sub (l' := [(4, .int (nI (i + 6))), (3, .ref o), (2, .ref mm), (1, .ref h), (0, .ref b)]) hl [0, 2, 3, 4, 5] rfl
  exact cont u8 H locs ls hf9 hP hD hS hl
theorem d_SeriesVaultLaw_law_344 : decode code 344 = .ok (.aload_n 1, 1) := by decide +kernel
theorem d_SeriesVaultLaw_law_345 : decode code 345 = .ok (.aload_n 3, 1) := by decide +kernel
theorem d_SeriesVaultLaw_law_346 : decode code 346 = .ok (.invokestatic 121, 3) := by decide +kernel
theorem d_SeriesVaultLaw_law_349 : decode code 349 = .ok (.istore 5, 2) := by decide +kernel
theorem d_SeriesVaultLaw_law_351 : decode code 351 = .ok (.aload_n 2, 1) := by decide +kernel
theorem d_SeriesVaultLaw_law_352 : decode code 352 = .ok (.invokevirtual 124, 3) := by decide +kernel
theorem d_SeriesVaultLaw_law_355 : decode code 355 = .ok (.istore 6, 2) := by decide +kernel
theorem d_SeriesVaultLaw_law_357 : decode code 357 = .ok (.aload_n 2, 1) := by decide +kernel
theorem d_SeriesVaultLaw_law_358 : decode code 358 = .ok (.invokevirtual 110, 3) := by decide +kernel
theorem d_SeriesVaultLaw_law_361 : decode code 361 = .ok (.iload 5, 2) := by decide +kernel
theorem d_SeriesVaultLaw_law_363 : decode code 363 = .ok (.if_icmp .eq 5, 3) := by decide +kernel
theorem d_SeriesVaultLaw_law_368 : decode code 368 = .ok (.iload 5, 2) := by decide +kernel
theorem d_SeriesVaultLaw_law_370 : decode code 370 = .ok (.ifCond .ne 15, 3) := by decide +kernel
theorem d_SeriesVaultLaw_law_373 : decode code 373 = .ok (.aload_n 3, 1) := by decide +kernel
theorem d_SeriesVaultLaw_law_374 : decode code 374 = .ok (.iconst 0, 1) := by decide +kernel
theorem d_SeriesVaultLaw_law_375 : decode code 375 = .ok (.laload, 1) := by decide +kernel
theorem d_SeriesVaultLaw_law_376 : decode code 376 = .ok (.iload 6, 2) := by decide +kernel
theorem d_SeriesVaultLaw_law_378 : decode code 378 = .ok (.i2l, 1) := by decide +kernel
theorem d_SeriesVaultLaw_law_379 : decode code 379 = .ok (.lcmp, 1) := by decide +kernel
theorem d_SeriesVaultLaw_law_380 : decode code 380 = .ok (.ifCond .eq 5, 3) := by decide +kernel
theorem d_SeriesVaultLaw_law_385 : decode code 385 = .ok (.goto 1385, 3) := by decide +kernel
theorem w1818 : Cond.methodLink "SeriesVaultLaw" 121 ⟨"SeriesVaultLaw", "series", "(LSeriesVault;[J)I"⟩ ∈ aW := aw_of (tb_3 (List.mem_of_getElem? (i := 165) rfl)) rfl
theorem w1819 : Cond.codeWith ⟨"SeriesVaultLaw", "series", "(LSeriesVault;[J)I"⟩ method_6_code 3 (some FieldType.int) [(0, 8, 11, 29), (0, 8, 14, 13)] ∈ aW := aw_of (tb_3 (List.mem_of_getElem? (i := 167) rfl)) rfl
theorem w1820 : Cond.static ⟨"SeriesVaultLaw", "series", "(LSeriesVault;[J)I"⟩ ∈ aW := aw_of (tb_3 (List.mem_of_getElem? (i := 166) rfl)) rfl
theorem w1821 : Cond.methodLink "SeriesVaultLaw" 124 ⟨"SeriesVaultModel", "series", "()I"⟩ ∈ aW := aw_of (tb_9 (List.mem_of_getElem? (i := 192) rfl)) rfl
theorem w1822 : Cond.code ⟨"SeriesVaultModel", "series", "()I"⟩ prog_14_method_29_code 5 (some FieldType.int) ∈ aW := aw_of (tb_9 (List.mem_of_getElem? (i := 195) rfl)) rfl
theorem w1823 : Cond.instanceMethod ⟨"SeriesVaultModel", "series", "()I"⟩ ∈ aW := aw_of (tb_9 (List.mem_of_getElem? (i := 193) rfl)) rfl
theorem w1824 : Cond.selects "SeriesVaultModel" ⟨"SeriesVaultModel", "series", "()I"⟩ ⟨"SeriesVaultModel", "series", "()I"⟩ ∈ aW := aw_of (tb_9 (List.mem_of_getElem? (i := 194) rfl)) rfl
set_option maxHeartbeats 4000000 in
set_option maxRecDepth 100000 in
theorem l9_3 {p : Program} {e : Env} {s : State} {m : MethodId} {below : List Frame} {meth : Method} {c : Code} (l : Launch) {b L : Nat} {xs : Nat → Int32} {D : va_G} {dA : Nat → ClassId} {e0 : Nat} {A : Nat → Prop} {H : Heap} {locs : List Loc} {ls : Array Slot} (hC : lS p l s m meth c b L xs D dA e0 A) {h : Nat} {ad : Nat → Nat} {x : VS} {mm : Nat} {mad : Nat → Nat} {M M1 : MS} {o : Nat} {og : Nat → Int64} {i fr1 lo1 fr2 lo2 mc9 ms9 cells slots : Nat} {F9 : VS → Prop} {b9 : Int32} {v9 : Int64} (hi : i + 6 ≤ L) (hL : L ≤ 3072) (hfr : fr1 ≤ 2000 ∧ lo1 ≤ 80000 ∧ fr2 ≤ 2000 ∧ lo2 ≤ 80000) (hrm : cells + mc9 ≤ 601024 ∧ slots + ms9 ≤ 7293034) (hcod : M1.cod = 0) (hv : v9 = b9.toInt64) (hW : ∀ sz : Nat, Met l ⟨"SeriesVaultLaw", "series", "(LSeriesVault;[J)I"⟩ [Cond.codeWith ⟨"SeriesVaultLaw", "series", "(LSeriesVault;[J)I"⟩ method_6_code 3 (some FieldType.int) [(0, 8, 11, 29), (0, 8, 14, 13)]] { frames := fr1, cells := mc9, slots := ms9, locals := lo1 } (pC D dA [.ref h, .ref o] (([(o, .inl (dA 2, 1, .inr (.inl og)))] : va_W) ++ (VW dA h ad x)) sz) (va_Qi (fun (r9 : Int32) (u9 : VS) => r9 = 0 ∧ F9 u9) (fun (u9 : VS) t9 => bW D (va_A (([(o, .inl (dA 2, 1, .inr (.inl og)))] : va_W) ++ (VW dA h ad x)) sz) (([(o, .inl (dA 2, 1, .inr (.inl (va_up og 0 v9))))] : va_W) ++ (VW dA h ad u9)) t9) (va_A (([(o, .inl (dA 2, 1, .inr (.inl og)))] : va_W) ++ (VW dA h ad x)) sz)) mc9 ms9 (va_A (([(o, .inl (dA 2, 1, .inr (.inl og)))] : va_W) ++ (VW dA h ad x)) sz)) (hM : ∀ sz : Nat, Met l ⟨"SeriesVaultModel", "series", "()I"⟩ [Cond.code ⟨"SeriesVaultModel", "series", "()I"⟩ prog_14_method_29_code 5 (some FieldType.int)] { frames := fr2, cells := 0, slots := 0, locals := lo2 } (pC D dA [.ref mm] (MW dA mm mad M) sz) (va_Qi (fun (r9 : Int32) (u9 : Unit) => r9 = b9) (fun (u9 : Unit) t9 => bW D (va_A (MW dA mm mad M) sz) (MW dA mm mad M1) t9) (va_A (MW dA mm mad M) sz)) 0 0 (va_A (MW dA mm mad M) sz)) (hP : va_P D vwCl (MW dA mm mad M ++ (([(o, .inl (dA 2, 1, .inr (.inl og)))] : va_W) ++ (VW dA h ad x))) H) (hD : va_D A (MW dA mm mad M ++ (([(o, .inl (dA 2, 1, .inr (.inl og)))] : va_W) ++ (VW dA h ad x)))) (hS : va_S A s.heap H locs) (hl : lv_has ls 8 [(4, .int (nI i)), (3, .ref o), (2, .ref mm), (1, .ref h), (0, .ref b)]) (cont : ∀ (u : VS) (H1 : Heap) (locs1 : List Loc) (ls1 : Array Slot), F9 u → va_P D vwCl (MW dA mm mad M1 ++ (([(o, .inl (dA 2, 1, .inr (.inl (va_up og 0 v9))))] : va_W) ++ (VW dA h ad u))) H1 → va_D A (MW dA mm mad M1 ++ (([(o, .inl (dA 2, 1, .inr (.inl (va_up og 0 v9))))] : va_W) ++ (VW dA h ad u))) → va_S A s.heap H1 locs1 → lv_has ls1 8 [(4, .int (nI (i + 6))), (3, .ref o), (2, .ref mm), (1, .ref h), (0, .ref b)] → W p l e room_1 s m #[Value.ref b] below meth c H1 locs1 (cells + mc9 + 0 + 0) (slots + ms9 + 0 + 0) (lw_Z below #[Value.ref b] s) (F0 m 23 ls1 [])) : W p l e room_1 s m #[Value.ref b] below meth c H locs cells slots (lw_Z below #[Value.ref b] s) (F0 m 344 ls []) := by
  have hC0 := hC
  obtain ⟨hx, hb, hr, hml, hown, hlk, hE, hK, hA, hN, hZ, hT, hX, hbl, hbA, hnew, htr⟩ := hC
  refine lv_aload_n hx hb d_SeriesVaultLaw_law_344 rfl (lv_at hl 3 rfl) ?_
  refine lv_aload_n hx hb d_SeriesVaultLaw_law_345 rfl (lv_at hl 1 rfl) ?_
  have hPc : va_P D vwCl (([(o, .inl (dA 2, 1, .inr (.inl og)))] : va_W) ++ (VW dA h ad x)) H := spP (wr := MW dA mm mad M) hP
  have hDc : va_D A (([(o, .inl (dA 2, 1, .inr (.inl og)))] : va_W) ++ (VW dA h ad x)) := spD (wr := MW dA mm mad M) hD
  refine jkI (wr := MW dA mm mad M) (rnW (As := [.ref h, .ref o]) (rest := []) hx hb hml hown hE hK (hN _ _ hS) hPc hDc (hW H.size) w1819 w1818 w1820 w1793 rfl rfl ⟨⟨by decide, by decide⟩, rfl⟩ ⟨(show fr1 + 1 ≤ 2048 by omega), (show 8 + (3 + 11) + lo1 ≤ 84000 by omega)⟩ rfl hl.1 rfl (Nat.le_of_ble_eq_true rfl) d_SeriesVaultLaw_law_346 ⟨(show cells + mc9 ≤ 601024 by omega), (show slots + ms9 ≤ 7293034 by omega)⟩) hP hD hS hA (fun k8 u8 H locs hp9 hP hD hS => ?_)
  obtain ⟨hp9, hf9⟩ := hp9
  replace hp9 : 0 = k8 := Eq.symm hp9
  subst hp9
  have hP : va_P D vwCl (MW dA mm mad M ++ (([(o, .inl (dA 2, 1, .inr (.inl (va_up og 0 v9))))] : va_W) ++ (VW dA h ad u8))) H := hP
  have hD : va_D A (MW dA mm mad M ++ (([(o, .inl (dA 2, 1, .inr (.inl (va_up og 0 v9))))] : va_W) ++ (VW dA h ad u8))) := hD
  refine lv_istore hx hb d_SeriesVaultLaw_law_349 hl (by decide) rfl (fun ls hl => ?_)
  have hl : lv_has ls 8 [(5, .int 0), (4, .int (nI i)), (3, .ref o), (2, .ref mm), (1, .ref h), (0, .ref b)] := hl
  refine lv_aload_n hx hb d_SeriesVaultLaw_law_351 rfl (lv_at hl 3 rfl) ?_
  have hP := pmP (show List.Perm (α := Nat × va_E) (MW dA mm mad M ++ (([(o, .inl (dA 2, 1, .inr (.inl (va_up og 0 v9))))] : va_W) ++ (VW dA h ad u8))) (([(o, .inl (dA 2, 1, .inr (.inl (va_up og 0 v9))))] : va_W) ++ (MW dA mm mad M ++ (VW dA h ad u8))) from List.perm_append_comm_assoc (MW dA mm mad M) (([(o, .inl (dA 2, 1, .inr (.inl (va_up og 0 v9))))] : va_W)) (VW dA h ad u8)) hP
  have hD := pmD (show List.Perm (α := Nat × va_E) (MW dA mm mad M ++ (([(o, .inl (dA 2, 1, .inr (.inl (va_up og 0 v9))))] : va_W) ++ (VW dA h ad u8))) (([(o, .inl (dA 2, 1, .inr (.inl (va_up og 0 v9))))] : va_W) ++ (MW dA mm mad M ++ (VW dA h ad u8))) from List.perm_append_comm_assoc (MW dA mm mad M) (([(o, .inl (dA 2, 1, .inr (.inl (va_up og 0 v9))))] : va_W)) (VW dA h ad u8)) hD
  have hP := pmP (show List.Perm (α := Nat × va_E) (([(o, .inl (dA 2, 1, .inr (.inl (va_up og 0 v9))))] : va_W) ++ (MW dA mm mad M ++ (VW dA h ad u8))) (([(o, .inl (dA 2, 1, .inr (.inl (va_up og 0 v9))))] : va_W) ++ (VW dA h ad u8 ++ (MW dA mm mad M))) from List.Perm.append_left (([(o, .inl (dA 2, 1, .inr (.inl (va_up og 0 v9))))] : va_W)) (List.perm_append_comm)) hP
  have hD := pmD (show List.Perm (α := Nat × va_E) (([(o, .inl (dA 2, 1, .inr (.inl (va_up og 0 v9))))] : va_W) ++ (MW dA mm mad M ++ (VW dA h ad u8))) (([(o, .inl (dA 2, 1, .inr (.inl (va_up og 0 v9))))] : va_W) ++ (VW dA h ad u8 ++ (MW dA mm mad M))) from List.Perm.append_left (([(o, .inl (dA 2, 1, .inr (.inl (va_up og 0 v9))))] : va_W)) (List.perm_append_comm)) hD
  have hPc : va_P D vwCl (MW dA mm mad M) H := spP (wr := ([(o, .inl (dA 2, 1, .inr (.inl (va_up og 0 v9))))] : va_W) ++ (VW dA h ad u8)) hP
  have hDc : va_D A (MW dA mm mad M) := spD (wr := ([(o, .inl (dA 2, 1, .inr (.inl (va_up og 0 v9))))] : va_W) ++ (VW dA h ad u8)) hD
  refine jkI (wr := ([(o, .inl (dA 2, 1, .inr (.inl (va_up og 0 v9))))] : va_W) ++ (VW dA h ad u8)) (rnV (As := []) (rest := []) hx hb hml hown hE hK (hN _ _ hS) hPc hDc (hM H.size) (q0 := 0) rfl rfl w1822 w1821 w1823 w1824 w328 rfl rfl ⟨⟨by decide, by decide⟩, rfl⟩ ⟨(show fr2 + 1 ≤ 2048 by omega), (show 8 + (5 + 11) + lo2 ≤ 84000 by omega)⟩ rfl hl.1 rfl (Nat.le_of_ble_eq_true rfl) d_SeriesVaultLaw_law_352 ⟨(show cells + mc9 + 0 ≤ 601024 by omega), (show slots + ms9 + 0 ≤ 7293034 by omega)⟩) hP hD hS hA (fun r7 u7 H locs hp9 hP hD hS => ?_)
  replace hp9 : b9 = r7 := Eq.symm hp9
  subst hp9
  have hP : va_P D vwCl (([(o, .inl (dA 2, 1, .inr (.inl (va_up og 0 v9))))] : va_W) ++ (VW dA h ad u8 ++ (MW dA mm mad M1))) H := hP
  have hD : va_D A (([(o, .inl (dA 2, 1, .inr (.inl (va_up og 0 v9))))] : va_W) ++ (VW dA h ad u8 ++ (MW dA mm mad M1))) := hD
  refine lv_istore hx hb d_SeriesVaultLaw_law_355 hl (by decide) rfl (fun ls hl => ?_)
  have hl : lv_has ls 8 [(6, .int b9), (5, .int 0), (4, .int (nI i)), (3, .ref o), (2, .ref mm), (1, .ref h), (0, .ref b)] := hl
  refine lv_aload_n hx hb d_SeriesVaultLaw_law_357 rfl (lv_at hl 4 rfl) ?_
  have hPc : va_P D vwCl (MW dA mm mad M1) H := spP (wr := ([(o, .inl (dA 2, 1, .inr (.inl (va_up og 0 v9))))] : va_W) ++ (VW dA h ad u8)) hP
  have hDc : va_D A (MW dA mm mad M1) := spD (wr := ([(o, .inl (dA 2, 1, .inr (.inl (va_up og 0 v9))))] : va_W) ++ (VW dA h ad u8)) hD
  refine jkI (wr := ([(o, .inl (dA 2, 1, .inr (.inl (va_up og 0 v9))))] : va_W) ++ (VW dA h ad u8)) (rnV (As := []) (rest := []) hx hb hml hown hE hK (hN _ _ hS) hPc hDc (k_thrown l D dA H.size mm mad M1) (q0 := 0) rfl rfl w1801 w1800 w1802 w1803 w328 rfl rfl ⟨⟨by decide, by decide⟩, rfl⟩ ⟨(show 1 + 1 ≤ 2048 by omega), (show 8 + (1 + 11) + 0 ≤ 84000 by omega)⟩ rfl hl.1 rfl (Nat.le_of_ble_eq_true rfl) d_SeriesVaultLaw_law_358 ⟨(show cells + mc9 + 0 ≤ 601024 by omega), (show slots + ms9 + 0 ≤ 7293034 by omega)⟩) hP hD hS hA (fun r7 u7 H locs hp9 hP hD hS => ?_)
  replace hp9 : 0 = r7 := Eq.symm (hp9.trans hcod)
  subst hp9
  have hP : va_P D vwCl (([(o, .inl (dA 2, 1, .inr (.inl (va_up og 0 v9))))] : va_W) ++ (VW dA h ad u8 ++ (MW dA mm mad M1))) H := hP
  have hD : va_D A (([(o, .inl (dA 2, 1, .inr (.inl (va_up og 0 v9))))] : va_W) ++ (VW dA h ad u8 ++ (MW dA mm mad M1))) := hD
  refine lv_iload hx hb d_SeriesVaultLaw_law_361 (lv_at hl 1 rfl) ?_
  refine lv_icmp_eq hx hb d_SeriesVaultLaw_law_363 (tgt := 368) rfl (fun _ => ?_) (fun h9 => absurd rfl h9)
  refine lv_iload hx hb d_SeriesVaultLaw_law_368 (lv_at hl 1 rfl) ?_
  refine lv_if_ne hx hb d_SeriesVaultLaw_law_370 (tgt := 385) rfl (fun h9 => absurd (by decide) h9) (fun _ => ?_)
  refine lv_aload_n hx hb d_SeriesVaultLaw_law_373 rfl (lv_at hl 3 rfl) ?_
  refine lv_iconst (v := 0) hx hb d_SeriesVaultLaw_law_374 (by decide) ?_
  refine nlld (f := (va_up og 0 v9)) (n := 1) hx hb hK hP (0) 2 rfl rfl (0) (by decide) (by decide) d_SeriesVaultLaw_law_375 ?_
  refine tpl (y := v9) (va_up_self _ _ _) ?_
  refine lv_iload hx hb d_SeriesVaultLaw_law_376 (lv_at hl 0 rfl) ?_
  refine lv_i2l hx hb d_SeriesVaultLaw_law_378 rfl ?_
  refine W.lcmp hx hb d_SeriesVaultLaw_law_379 ?_
  refine lv_if_eq hx hb d_SeriesVaultLaw_law_380 (tgt := 385) rfl (fun _ => ?_) (fun h9 => absurd ((lg_cmp_eq _ _).mpr hv) h9)
  refine lv_goto hx hb d_SeriesVaultLaw_law_385 (tgt := 1770) rfl ?_
  refine lv_iinc (k := 2) (v := nI (i + 6)) hx hb d_SeriesVaultLaw_law_1770 hl rfl (iincN (i) 6 6 (by decide)) (by decide) rfl (fun ls hl => ?_)
  have hl : lv_has ls 8 [(4, .int (nI (i + 6))), (6, .int b9), (5, .int 0), (3, .ref o), (2, .ref mm), (1, .ref h), (0, .ref b)] := hl
  refine lv_goto hx hb d_SeriesVaultLaw_law_1773 (tgt := 23) rfl ?_
  have hP := pmP (show List.Perm (α := Nat × va_E) (([(o, .inl (dA 2, 1, .inr (.inl (va_up og 0 v9))))] : va_W) ++ (VW dA h ad u8 ++ (MW dA mm mad M1))) (MW dA mm mad M1 ++ (([(o, .inl (dA 2, 1, .inr (.inl (va_up og 0 v9))))] : va_W) ++ (VW dA h ad u8))) from (List.Perm.append_left (([(o, .inl (dA 2, 1, .inr (.inl (va_up og 0 v9))))] : va_W)) (List.perm_append_comm)).trans (List.perm_append_comm_assoc (([(o, .inl (dA 2, 1, .inr (.inl (va_up og 0 v9))))] : va_W)) (MW dA mm mad M1) (VW dA h ad u8))) hP
  have hD := pmD (show List.Perm (α := Nat × va_E) (([(o, .inl (dA 2, 1, .inr (.inl (va_up og 0 v9))))] : va_W) ++ (VW dA h ad u8 ++ (MW dA mm mad M1))) (MW dA mm mad M1 ++ (([(o, .inl (dA 2, 1, .inr (.inl (va_up og 0 v9))))] : va_W) ++ (VW dA h ad u8))) from (List.Perm.append_left (([(o, .inl (dA 2, 1, .inr (.inl (va_up og 0 v9))))] : va_W)) (List.perm_append_comm)).trans (List.perm_append_comm_assoc (([(o, .inl (dA 2, 1, .inr (.inl (va_up og 0 v9))))] : va_W)) (MW dA mm mad M1) (VW dA h ad u8))) hD
  have hP : va_P D vwCl (MW dA mm mad M1 ++ (([(o, .inl (dA 2, 1, .inr (.inl (va_up og 0 v9))))] : va_W) ++ (VW dA h ad u8))) H := hP
  have hD : va_D A (MW dA mm mad M1 ++ (([(o, .inl (dA 2, 1, .inr (.inl (va_up og 0 v9))))] : va_W) ++ (VW dA h ad u8))) := hD
  have hl := lv_sub (l' := [(4, .int (nI (i + 6))), (3, .ref o), (2, .ref mm), (1, .ref h), (0, .ref b)]) hl [0, 3, 4, 5, 6] rfl
  exact cont u8 H locs ls hf9 hP hD hS hl
set_option maxHeartbeats 4000000 in
set_option maxRecDepth 100000 in
theorem l9_3_x {p : Program} {e : Env} {s : State} {m : MethodId} {below : List Frame} {meth : Method} {c : Code} (l : Launch) {b L : Nat} {xs : Nat → Int32} {D : va_G} {dA : Nat → ClassId} {e0 : Nat} {A : Nat → Prop} {H : Heap} {locs : List Loc} {ls : Array Slot} (hC : lS p l s m meth c b L xs D dA e0 A) {h : Nat} {ad : Nat → Nat} {x : VS} {mm : Nat} {mad : Nat → Nat} {M M1 : MS} {o : Nat} {og : Nat → Int64} {i fr1 lo1 fr2 lo2 mc9 ms9 cells slots : Nat} {F9 : VS → Prop} {b9 : Int32} {k9 : Nat} (hi : i + 6 ≤ L) (hL : L ≤ 3072) (hfr : fr1 ≤ 2000 ∧ lo1 ≤ 80000 ∧ fr2 ≤ 2000 ∧ lo2 ≤ 80000) (hrm : cells + mc9 ≤ 601024 ∧ slots + ms9 ≤ 7293034) (hcod : M1.cod = nI k9) (hk9 : ¬ nI k9 = 0) (hW : ∀ sz : Nat, Met l ⟨"SeriesVaultLaw", "series", "(LSeriesVault;[J)I"⟩ [Cond.codeWith ⟨"SeriesVaultLaw", "series", "(LSeriesVault;[J)I"⟩ method_6_code 3 (some FieldType.int) [(0, 8, 11, 29), (0, 8, 14, 13)]] { frames := fr1, cells := mc9, slots := ms9, locals := lo1 } (pC D dA [.ref h, .ref o] (([(o, .inl (dA 2, 1, .inr (.inl og)))] : va_W) ++ (VW dA h ad x)) sz) (va_Qi (fun (r9 : Int32) (u9 : VS) => r9 = nI k9 ∧ F9 u9) (fun (u9 : VS) t9 => bW D (va_A (([(o, .inl (dA 2, 1, .inr (.inl og)))] : va_W) ++ (VW dA h ad x)) sz) (([(o, .inl (dA 2, 1, .inr (.inl (og))))] : va_W) ++ (VW dA h ad u9)) t9) (va_A (([(o, .inl (dA 2, 1, .inr (.inl og)))] : va_W) ++ (VW dA h ad x)) sz)) mc9 ms9 (va_A (([(o, .inl (dA 2, 1, .inr (.inl og)))] : va_W) ++ (VW dA h ad x)) sz)) (hM : ∀ sz : Nat, Met l ⟨"SeriesVaultModel", "series", "()I"⟩ [Cond.code ⟨"SeriesVaultModel", "series", "()I"⟩ prog_14_method_29_code 5 (some FieldType.int)] { frames := fr2, cells := 0, slots := 0, locals := lo2 } (pC D dA [.ref mm] (MW dA mm mad M) sz) (va_Qi (fun (r9 : Int32) (u9 : Unit) => r9 = b9) (fun (u9 : Unit) t9 => bW D (va_A (MW dA mm mad M) sz) (MW dA mm mad M1) t9) (va_A (MW dA mm mad M) sz)) 0 0 (va_A (MW dA mm mad M) sz)) (hP : va_P D vwCl (MW dA mm mad M ++ (([(o, .inl (dA 2, 1, .inr (.inl og)))] : va_W) ++ (VW dA h ad x))) H) (hD : va_D A (MW dA mm mad M ++ (([(o, .inl (dA 2, 1, .inr (.inl og)))] : va_W) ++ (VW dA h ad x)))) (hS : va_S A s.heap H locs) (hl : lv_has ls 8 [(4, .int (nI i)), (3, .ref o), (2, .ref mm), (1, .ref h), (0, .ref b)]) (cont : ∀ (u : VS) (H1 : Heap) (locs1 : List Loc) (ls1 : Array Slot), F9 u → va_P D vwCl (MW dA mm mad M1 ++ (([(o, .inl (dA 2, 1, .inr (.inl og)))] : va_W) ++ (VW dA h ad u))) H1 → va_D A (MW dA mm mad M1 ++ (([(o, .inl (dA 2, 1, .inr (.inl og)))] : va_W) ++ (VW dA h ad u))) → va_S A s.heap H1 locs1 → lv_has ls1 8 [(4, .int (nI (i + 6))), (3, .ref o), (2, .ref mm), (1, .ref h), (0, .ref b)] → W p l e room_1 s m #[Value.ref b] below meth c H1 locs1 (cells + mc9 + 0 + 0) (slots + ms9 + 0 + 0) (lw_Z below #[Value.ref b] s) (F0 m 23 ls1 [])) : W p l e room_1 s m #[Value.ref b] below meth c H locs cells slots (lw_Z below #[Value.ref b] s) (F0 m 344 ls []) := by
  have hC0 := hC
  obtain ⟨hx, hb, hr, hml, hown, hlk, hE, hK, hA, hN, hZ, hT, hX, hbl, hbA, hnew, htr⟩ := hC
  refine lv_aload_n hx hb d_SeriesVaultLaw_law_344 rfl (lv_at hl 3 rfl) ?_
  refine lv_aload_n hx hb d_SeriesVaultLaw_law_345 rfl (lv_at hl 1 rfl) ?_
  have hPc : va_P D vwCl (([(o, .inl (dA 2, 1, .inr (.inl og)))] : va_W) ++ (VW dA h ad x)) H := spP (wr := MW dA mm mad M) hP
  have hDc : va_D A (([(o, .inl (dA 2, 1, .inr (.inl og)))] : va_W) ++ (VW dA h ad x)) := spD (wr := MW dA mm mad M) hD
  refine jkI (wr := MW dA mm mad M) (rnW (As := [.ref h, .ref o]) (rest := []) hx hb hml hown hE hK (hN _ _ hS) hPc hDc (hW H.size) w1819 w1818 w1820 w1793 rfl rfl ⟨⟨by decide, by decide⟩, rfl⟩ ⟨(show fr1 + 1 ≤ 2048 by omega), (show 8 + (3 + 11) + lo1 ≤ 84000 by omega)⟩ rfl hl.1 rfl (Nat.le_of_ble_eq_true rfl) d_SeriesVaultLaw_law_346 ⟨(show cells + mc9 ≤ 601024 by omega), (show slots + ms9 ≤ 7293034 by omega)⟩) hP hD hS hA (fun k8 u8 H locs hp9 hP hD hS => ?_)
  obtain ⟨hp9, hf9⟩ := hp9
  replace hp9 : nI k9 = k8 := Eq.symm hp9
  subst hp9
  have hP : va_P D vwCl (MW dA mm mad M ++ (([(o, .inl (dA 2, 1, .inr (.inl og)))] : va_W) ++ (VW dA h ad u8))) H := hP
  have hD : va_D A (MW dA mm mad M ++ (([(o, .inl (dA 2, 1, .inr (.inl og)))] : va_W) ++ (VW dA h ad u8))) := hD
  refine lv_istore hx hb d_SeriesVaultLaw_law_349 hl (by decide) rfl (fun ls hl => ?_)
  have hl : lv_has ls 8 [(5, .int (nI k9)), (4, .int (nI i)), (3, .ref o), (2, .ref mm), (1, .ref h), (0, .ref b)] := hl
  refine lv_aload_n hx hb d_SeriesVaultLaw_law_351 rfl (lv_at hl 3 rfl) ?_
  have hP := pmP (show List.Perm (α := Nat × va_E) (MW dA mm mad M ++ (([(o, .inl (dA 2, 1, .inr (.inl og)))] : va_W) ++ (VW dA h ad u8))) (([(o, .inl (dA 2, 1, .inr (.inl og)))] : va_W) ++ (MW dA mm mad M ++ (VW dA h ad u8))) from List.perm_append_comm_assoc (MW dA mm mad M) (([(o, .inl (dA 2, 1, .inr (.inl og)))] : va_W)) (VW dA h ad u8)) hP
  have hD := pmD (show List.Perm (α := Nat × va_E) (MW dA mm mad M ++ (([(o, .inl (dA 2, 1, .inr (.inl og)))] : va_W) ++ (VW dA h ad u8))) (([(o, .inl (dA 2, 1, .inr (.inl og)))] : va_W) ++ (MW dA mm mad M ++ (VW dA h ad u8))) from List.perm_append_comm_assoc (MW dA mm mad M) (([(o, .inl (dA 2, 1, .inr (.inl og)))] : va_W)) (VW dA h ad u8)) hD
  have hP := pmP (show List.Perm (α := Nat × va_E) (([(o, .inl (dA 2, 1, .inr (.inl og)))] : va_W) ++ (MW dA mm mad M ++ (VW dA h ad u8))) (([(o, .inl (dA 2, 1, .inr (.inl og)))] : va_W) ++ (VW dA h ad u8 ++ (MW dA mm mad M))) from List.Perm.append_left (([(o, .inl (dA 2, 1, .inr (.inl og)))] : va_W)) (List.perm_append_comm)) hP
  have hD := pmD (show List.Perm (α := Nat × va_E) (([(o, .inl (dA 2, 1, .inr (.inl og)))] : va_W) ++ (MW dA mm mad M ++ (VW dA h ad u8))) (([(o, .inl (dA 2, 1, .inr (.inl og)))] : va_W) ++ (VW dA h ad u8 ++ (MW dA mm mad M))) from List.Perm.append_left (([(o, .inl (dA 2, 1, .inr (.inl og)))] : va_W)) (List.perm_append_comm)) hD
  have hPc : va_P D vwCl (MW dA mm mad M) H := spP (wr := ([(o, .inl (dA 2, 1, .inr (.inl og)))] : va_W) ++ (VW dA h ad u8)) hP
  have hDc : va_D A (MW dA mm mad M) := spD (wr := ([(o, .inl (dA 2, 1, .inr (.inl og)))] : va_W) ++ (VW dA h ad u8)) hD
  refine jkI (wr := ([(o, .inl (dA 2, 1, .inr (.inl og)))] : va_W) ++ (VW dA h ad u8)) (rnV (As := []) (rest := []) hx hb hml hown hE hK (hN _ _ hS) hPc hDc (hM H.size) (q0 := 0) rfl rfl w1822 w1821 w1823 w1824 w328 rfl rfl ⟨⟨by decide, by decide⟩, rfl⟩ ⟨(show fr2 + 1 ≤ 2048 by omega), (show 8 + (5 + 11) + lo2 ≤ 84000 by omega)⟩ rfl hl.1 rfl (Nat.le_of_ble_eq_true rfl) d_SeriesVaultLaw_law_352 ⟨(show cells + mc9 + 0 ≤ 601024 by omega), (show slots + ms9 + 0 ≤ 7293034 by omega)⟩) hP hD hS hA (fun r7 u7 H locs hp9 hP hD hS => ?_)
  replace hp9 : b9 = r7 := Eq.symm hp9
  subst hp9
  have hP : va_P D vwCl (([(o, .inl (dA 2, 1, .inr (.inl og)))] : va_W) ++ (VW dA h ad u8 ++ (MW dA mm mad M1))) H := hP
  have hD : va_D A (([(o, .inl (dA 2, 1, .inr (.inl og)))] : va_W) ++ (VW dA h ad u8 ++ (MW dA mm mad M1))) := hD
  refine lv_istore hx hb d_SeriesVaultLaw_law_355 hl (by decide) rfl (fun ls hl => ?_)
  have hl : lv_has ls 8 [(6, .int b9), (5, .int (nI k9)), (4, .int (nI i)), (3, .ref o), (2, .ref mm), (1, .ref h), (0, .ref b)] := hl
  refine lv_aload_n hx hb d_SeriesVaultLaw_law_357 rfl (lv_at hl 4 rfl) ?_
  have hPc : va_P D vwCl (MW dA mm mad M1) H := spP (wr := ([(o, .inl (dA 2, 1, .inr (.inl og)))] : va_W) ++ (VW dA h ad u8)) hP
  have hDc : va_D A (MW dA mm mad M1) := spD (wr := ([(o, .inl (dA 2, 1, .inr (.inl og)))] : va_W) ++ (VW dA h ad u8)) hD
  refine jkI (wr := ([(o, .inl (dA 2, 1, .inr (.inl og)))] : va_W) ++ (VW dA h ad u8)) (rnV (As := []) (rest := []) hx hb hml hown hE hK (hN _ _ hS) hPc hDc (k_thrown l D dA H.size mm mad M1) (q0 := 0) rfl rfl w1801 w1800 w1802 w1803 w328 rfl rfl ⟨⟨by decide, by decide⟩, rfl⟩ ⟨(show 1 + 1 ≤ 2048 by omega), (show 8 + (1 + 11) + 0 ≤ 84000 by omega)⟩ rfl hl.1 rfl (Nat.le_of_ble_eq_true rfl) d_SeriesVaultLaw_law_358 ⟨(show cells + mc9 + 0 ≤ 601024 by omega), (show slots + ms9 + 0 ≤ 7293034 by omega)⟩) hP hD hS hA (fun r7 u7 H locs hp9 hP hD hS => ?_)
  replace hp9 : nI k9 = r7 := Eq.symm (hp9.trans hcod)
  subst hp9
  have hP : va_P D vwCl (([(o, .inl (dA 2, 1, .inr (.inl og)))] : va_W) ++ (VW dA h ad u8 ++ (MW dA mm mad M1))) H := hP
  have hD : va_D A (([(o, .inl (dA 2, 1, .inr (.inl og)))] : va_W) ++ (VW dA h ad u8 ++ (MW dA mm mad M1))) := hD
  refine lv_iload hx hb d_SeriesVaultLaw_law_361 (lv_at hl 1 rfl) ?_
  refine lv_icmp_eq hx hb d_SeriesVaultLaw_law_363 (tgt := 368) rfl (fun _ => ?_) (fun h9 => absurd rfl h9)
  refine lv_iload hx hb d_SeriesVaultLaw_law_368 (lv_at hl 1 rfl) ?_
  refine lv_if_ne hx hb d_SeriesVaultLaw_law_370 (tgt := 385) rfl (fun _ => ?_) (fun h9 => absurd h9 hk9)
  refine lv_goto hx hb d_SeriesVaultLaw_law_385 (tgt := 1770) rfl ?_
  refine lv_iinc (k := 2) (v := nI (i + 6)) hx hb d_SeriesVaultLaw_law_1770 hl rfl (iincN (i) 6 6 (by decide)) (by decide) rfl (fun ls hl => ?_)
  have hl : lv_has ls 8 [(4, .int (nI (i + 6))), (6, .int b9), (5, .int (nI k9)), (3, .ref o), (2, .ref mm), (1, .ref h), (0, .ref b)] := hl
  refine lv_goto hx hb d_SeriesVaultLaw_law_1773 (tgt := 23) rfl ?_
  have hP := pmP (show List.Perm (α := Nat × va_E) (([(o, .inl (dA 2, 1, .inr (.inl og)))] : va_W) ++ (VW dA h ad u8 ++ (MW dA mm mad M1))) (MW dA mm mad M1 ++ (([(o, .inl (dA 2, 1, .inr (.inl og)))] : va_W) ++ (VW dA h ad u8))) from (List.Perm.append_left (([(o, .inl (dA 2, 1, .inr (.inl og)))] : va_W)) (List.perm_append_comm)).trans (List.perm_append_comm_assoc (([(o, .inl (dA 2, 1, .inr (.inl og)))] : va_W)) (MW dA mm mad M1) (VW dA h ad u8))) hP
  have hD := pmD (show List.Perm (α := Nat × va_E) (([(o, .inl (dA 2, 1, .inr (.inl og)))] : va_W) ++ (VW dA h ad u8 ++ (MW dA mm mad M1))) (MW dA mm mad M1 ++ (([(o, .inl (dA 2, 1, .inr (.inl og)))] : va_W) ++ (VW dA h ad u8))) from (List.Perm.append_left (([(o, .inl (dA 2, 1, .inr (.inl og)))] : va_W)) (List.perm_append_comm)).trans (List.perm_append_comm_assoc (([(o, .inl (dA 2, 1, .inr (.inl og)))] : va_W)) (MW dA mm mad M1) (VW dA h ad u8))) hD
  have hP : va_P D vwCl (MW dA mm mad M1 ++ (([(o, .inl (dA 2, 1, .inr (.inl og)))] : va_W) ++ (VW dA h ad u8))) H := hP
  have hD : va_D A (MW dA mm mad M1 ++ (([(o, .inl (dA 2, 1, .inr (.inl og)))] : va_W) ++ (VW dA h ad u8))) := hD
  have hl := lv_sub (l' := [(4, .int (nI (i + 6))), (3, .ref o), (2, .ref mm), (1, .ref h), (0, .ref b)]) hl [0, 3, 4, 5, 6] rfl
  exact cont u8 H locs ls hf9 hP hD hS hl
theorem d_SeriesVaultLaw_law_388 : decode code 388 = .ok (.aload_n 1, 1) := by decide +kernel
theorem d_SeriesVaultLaw_law_389 : decode code 389 = .ok (.aload_n 0, 1) := by decide +kernel
theorem d_SeriesVaultLaw_law_390 : decode code 390 = .ok (.iload 4, 2) := by decide +kernel
theorem d_SeriesVaultLaw_law_392 : decode code 392 = .ok (.iconst 1, 1) := by decide +kernel
theorem d_SeriesVaultLaw_law_393 : decode code 393 = .ok (.iadd, 1) := by decide +kernel
theorem d_SeriesVaultLaw_law_394 : decode code 394 = .ok (.iaload, 1) := by decide +kernel
theorem d_SeriesVaultLaw_law_395 : decode code 395 = .ok (.aload_n 3, 1) := by decide +kernel
theorem d_SeriesVaultLaw_law_396 : decode code 396 = .ok (.invokestatic 125, 3) := by decide +kernel
theorem d_SeriesVaultLaw_law_399 : decode code 399 = .ok (.istore 5, 2) := by decide +kernel
theorem d_SeriesVaultLaw_law_401 : decode code 401 = .ok (.aload_n 2, 1) := by decide +kernel
theorem d_SeriesVaultLaw_law_402 : decode code 402 = .ok (.aload_n 0, 1) := by decide +kernel
theorem d_SeriesVaultLaw_law_403 : decode code 403 = .ok (.iload 4, 2) := by decide +kernel
theorem d_SeriesVaultLaw_law_405 : decode code 405 = .ok (.iconst 1, 1) := by decide +kernel
theorem d_SeriesVaultLaw_law_406 : decode code 406 = .ok (.iadd, 1) := by decide +kernel
theorem d_SeriesVaultLaw_law_407 : decode code 407 = .ok (.iaload, 1) := by decide +kernel
theorem d_SeriesVaultLaw_law_408 : decode code 408 = .ok (.invokevirtual 128, 3) := by decide +kernel
theorem d_SeriesVaultLaw_law_411 : decode code 411 = .ok (.istore 6, 2) := by decide +kernel
theorem d_SeriesVaultLaw_law_413 : decode code 413 = .ok (.aload_n 2, 1) := by decide +kernel
theorem d_SeriesVaultLaw_law_414 : decode code 414 = .ok (.invokevirtual 110, 3) := by decide +kernel
theorem d_SeriesVaultLaw_law_417 : decode code 417 = .ok (.iload 5, 2) := by decide +kernel
theorem d_SeriesVaultLaw_law_419 : decode code 419 = .ok (.if_icmp .eq 5, 3) := by decide +kernel
theorem d_SeriesVaultLaw_law_424 : decode code 424 = .ok (.iload 5, 2) := by decide +kernel
theorem d_SeriesVaultLaw_law_426 : decode code 426 = .ok (.ifCond .ne 15, 3) := by decide +kernel
theorem d_SeriesVaultLaw_law_429 : decode code 429 = .ok (.aload_n 3, 1) := by decide +kernel
theorem d_SeriesVaultLaw_law_430 : decode code 430 = .ok (.iconst 0, 1) := by decide +kernel
theorem d_SeriesVaultLaw_law_431 : decode code 431 = .ok (.laload, 1) := by decide +kernel
theorem d_SeriesVaultLaw_law_432 : decode code 432 = .ok (.iload 6, 2) := by decide +kernel
theorem d_SeriesVaultLaw_law_434 : decode code 434 = .ok (.i2l, 1) := by decide +kernel
theorem d_SeriesVaultLaw_law_435 : decode code 435 = .ok (.lcmp, 1) := by decide +kernel
theorem d_SeriesVaultLaw_law_436 : decode code 436 = .ok (.ifCond .eq 5, 3) := by decide +kernel
theorem d_SeriesVaultLaw_law_441 : decode code 441 = .ok (.goto 1329, 3) := by decide +kernel
theorem w1825 : Cond.methodLink "SeriesVaultLaw" 125 ⟨"SeriesVaultLaw", "fault", "(LSeriesVault;I[J)I"⟩ ∈ aW := aw_of (tb_5 (List.mem_of_getElem? (i := 92) rfl)) rfl
theorem w1826 : Cond.codeWith ⟨"SeriesVaultLaw", "fault", "(LSeriesVault;I[J)I"⟩ method_7_code 4 (some FieldType.int) [(0, 9, 12, 35)] ∈ aW := aw_of (tb_5 (List.mem_of_getElem? (i := 94) rfl)) rfl
theorem w1827 : Cond.static ⟨"SeriesVaultLaw", "fault", "(LSeriesVault;I[J)I"⟩ ∈ aW := aw_of (tb_5 (List.mem_of_getElem? (i := 93) rfl)) rfl
theorem w1828 : Cond.methodLink "SeriesVaultLaw" 128 ⟨"SeriesVaultModel", "fault", "(I)I"⟩ ∈ aW := aw_of (tb_9 (List.mem_of_getElem? (i := 184) rfl)) rfl
theorem w1829 : Cond.code ⟨"SeriesVaultModel", "fault", "(I)I"⟩ prog_14_method_5_code 2 (some FieldType.int) ∈ aW := aw_of (tb_9 (List.mem_of_getElem? (i := 187) rfl)) rfl
theorem w1830 : Cond.instanceMethod ⟨"SeriesVaultModel", "fault", "(I)I"⟩ ∈ aW := aw_of (tb_9 (List.mem_of_getElem? (i := 185) rfl)) rfl
theorem w1831 : Cond.selects "SeriesVaultModel" ⟨"SeriesVaultModel", "fault", "(I)I"⟩ ⟨"SeriesVaultModel", "fault", "(I)I"⟩ ∈ aW := aw_of (tb_9 (List.mem_of_getElem? (i := 186) rfl)) rfl
set_option maxHeartbeats 4000000 in
set_option maxRecDepth 100000 in
theorem l9_4 {p : Program} {e : Env} {s : State} {m : MethodId} {below : List Frame} {meth : Method} {c : Code} (l : Launch) {b L : Nat} {xs : Nat → Int32} {D : va_G} {dA : Nat → ClassId} {e0 : Nat} {A : Nat → Prop} {H : Heap} {locs : List Loc} {ls : Array Slot} (hC : lS p l s m meth c b L xs D dA e0 A) {h : Nat} {ad : Nat → Nat} {x : VS} {mm : Nat} {mad : Nat → Nat} {M M1 : MS} {o : Nat} {og : Nat → Int64} {i fr1 lo1 fr2 lo2 mc9 ms9 cells slots : Nat} {F9 : VS → Prop} {b9 : Int32} {v9 : Int64} (hi : i + 6 ≤ L) (hL : L ≤ 3072) (hfr : fr1 ≤ 2000 ∧ lo1 ≤ 80000 ∧ fr2 ≤ 2000 ∧ lo2 ≤ 80000) (hrm : cells + mc9 ≤ 601024 ∧ slots + ms9 ≤ 7293034) (hcod : M1.cod = 0) (hv : v9 = b9.toInt64) (hW : ∀ sz : Nat, Met l ⟨"SeriesVaultLaw", "fault", "(LSeriesVault;I[J)I"⟩ [Cond.codeWith ⟨"SeriesVaultLaw", "fault", "(LSeriesVault;I[J)I"⟩ method_7_code 4 (some FieldType.int) [(0, 9, 12, 35)]] { frames := fr1, cells := mc9, slots := ms9, locals := lo1 } (pC D dA [.ref h, .int (xs (i + 1)), .ref o] (([(o, .inl (dA 2, 1, .inr (.inl og)))] : va_W) ++ (VW dA h ad x)) sz) (va_Qi (fun (r9 : Int32) (u9 : VS) => r9 = 0 ∧ F9 u9) (fun (u9 : VS) t9 => bW D (va_A (([(o, .inl (dA 2, 1, .inr (.inl og)))] : va_W) ++ (VW dA h ad x)) sz) (([(o, .inl (dA 2, 1, .inr (.inl (va_up og 0 v9))))] : va_W) ++ (VW dA h ad u9)) t9) (va_A (([(o, .inl (dA 2, 1, .inr (.inl og)))] : va_W) ++ (VW dA h ad x)) sz)) mc9 ms9 (va_A (([(o, .inl (dA 2, 1, .inr (.inl og)))] : va_W) ++ (VW dA h ad x)) sz)) (hM : ∀ sz : Nat, Met l ⟨"SeriesVaultModel", "fault", "(I)I"⟩ [Cond.code ⟨"SeriesVaultModel", "fault", "(I)I"⟩ prog_14_method_5_code 2 (some FieldType.int)] { frames := fr2, cells := 0, slots := 0, locals := lo2 } (pC D dA [.ref mm, .int (xs (i + 1))] (MW dA mm mad M) sz) (va_Qi (fun (r9 : Int32) (u9 : Unit) => r9 = b9) (fun (u9 : Unit) t9 => bW D (va_A (MW dA mm mad M) sz) (MW dA mm mad M1) t9) (va_A (MW dA mm mad M) sz)) 0 0 (va_A (MW dA mm mad M) sz)) (hP : va_P D vwCl (MW dA mm mad M ++ (([(o, .inl (dA 2, 1, .inr (.inl og)))] : va_W) ++ (VW dA h ad x))) H) (hD : va_D A (MW dA mm mad M ++ (([(o, .inl (dA 2, 1, .inr (.inl og)))] : va_W) ++ (VW dA h ad x)))) (hS : va_S A s.heap H locs) (hl : lv_has ls 8 [(4, .int (nI i)), (3, .ref o), (2, .ref mm), (1, .ref h), (0, .ref b)]) (cont : ∀ (u : VS) (H1 : Heap) (locs1 : List Loc) (ls1 : Array Slot), F9 u → va_P D vwCl (MW dA mm mad M1 ++ (([(o, .inl (dA 2, 1, .inr (.inl (va_up og 0 v9))))] : va_W) ++ (VW dA h ad u))) H1 → va_D A (MW dA mm mad M1 ++ (([(o, .inl (dA 2, 1, .inr (.inl (va_up og 0 v9))))] : va_W) ++ (VW dA h ad u))) → va_S A s.heap H1 locs1 → lv_has ls1 8 [(4, .int (nI (i + 6))), (3, .ref o), (2, .ref mm), (1, .ref h), (0, .ref b)] → W p l e room_1 s m #[Value.ref b] below meth c H1 locs1 (cells + mc9 + 0 + 0) (slots + ms9 + 0 + 0) (lw_Z below #[Value.ref b] s) (F0 m 23 ls1 [])) : W p l e room_1 s m #[Value.ref b] below meth c H locs cells slots (lw_Z below #[Value.ref b] s) (F0 m 388 ls []) := by
  have hC0 := hC
  obtain ⟨hx, hb, hr, hml, hown, hlk, hE, hK, hA, hN, hZ, hT, hX, hbl, hbA, hnew, htr⟩ := hC
  refine lv_aload_n hx hb d_SeriesVaultLaw_law_388 rfl (lv_at hl 3 rfl) ?_
  refine lv_aload_n hx hb d_SeriesVaultLaw_law_389 rfl (lv_at hl 4 rfl) ?_
  refine lv_iload hx hb d_SeriesVaultLaw_law_390 (lv_at hl 0 rfl) ?_
  refine lv_iconst (v := 1) hx hb d_SeriesVaultLaw_law_392 (by decide) ?_
  refine lv_iadd hx hb d_SeriesVaultLaw_law_393 (tpi (y := nI (i + 1)) (nI_add (i) (1)) ?_)
  refine sldN hx hb hX hbl hbA hS (show i + 1 < L by omega) (show L ≤ 65536 by omega) d_SeriesVaultLaw_law_394 ?_
  refine lv_aload_n hx hb d_SeriesVaultLaw_law_395 rfl (lv_at hl 1 rfl) ?_
  have hPc : va_P D vwCl (([(o, .inl (dA 2, 1, .inr (.inl og)))] : va_W) ++ (VW dA h ad x)) H := spP (wr := MW dA mm mad M) hP
  have hDc : va_D A (([(o, .inl (dA 2, 1, .inr (.inl og)))] : va_W) ++ (VW dA h ad x)) := spD (wr := MW dA mm mad M) hD
  refine jkI (wr := MW dA mm mad M) (rnW (As := [.ref h, .int (xs (i + 1)), .ref o]) (rest := []) hx hb hml hown hE hK (hN _ _ hS) hPc hDc (hW H.size) w1826 w1825 w1827 w1793 rfl rfl ⟨⟨by decide, by decide⟩, rfl⟩ ⟨(show fr1 + 1 ≤ 2048 by omega), (show 8 + (4 + 11) + lo1 ≤ 84000 by omega)⟩ rfl hl.1 rfl (Nat.le_of_ble_eq_true rfl) d_SeriesVaultLaw_law_396 ⟨(show cells + mc9 ≤ 601024 by omega), (show slots + ms9 ≤ 7293034 by omega)⟩) hP hD hS hA (fun k8 u8 H locs hp9 hP hD hS => ?_)
  obtain ⟨hp9, hf9⟩ := hp9
  replace hp9 : 0 = k8 := Eq.symm hp9
  subst hp9
  have hP : va_P D vwCl (MW dA mm mad M ++ (([(o, .inl (dA 2, 1, .inr (.inl (va_up og 0 v9))))] : va_W) ++ (VW dA h ad u8))) H := hP
  have hD : va_D A (MW dA mm mad M ++ (([(o, .inl (dA 2, 1, .inr (.inl (va_up og 0 v9))))] : va_W) ++ (VW dA h ad u8))) := hD
  refine lv_istore hx hb d_SeriesVaultLaw_law_399 hl (by decide) rfl (fun ls hl => ?_)
  have hl : lv_has ls 8 [(5, .int 0), (4, .int (nI i)), (3, .ref o), (2, .ref mm), (1, .ref h), (0, .ref b)] := hl
  refine lv_aload_n hx hb d_SeriesVaultLaw_law_401 rfl (lv_at hl 3 rfl) ?_
  refine lv_aload_n hx hb d_SeriesVaultLaw_law_402 rfl (lv_at hl 5 rfl) ?_
  refine lv_iload hx hb d_SeriesVaultLaw_law_403 (lv_at hl 1 rfl) ?_
  refine lv_iconst (v := 1) hx hb d_SeriesVaultLaw_law_405 (by decide) ?_
  refine lv_iadd hx hb d_SeriesVaultLaw_law_406 (tpi (y := nI (i + 1)) (nI_add (i) (1)) ?_)
  refine sldN hx hb hX hbl hbA hS (show i + 1 < L by omega) (show L ≤ 65536 by omega) d_SeriesVaultLaw_law_407 ?_
  have hP := pmP (show List.Perm (α := Nat × va_E) (MW dA mm mad M ++ (([(o, .inl (dA 2, 1, .inr (.inl (va_up og 0 v9))))] : va_W) ++ (VW dA h ad u8))) (([(o, .inl (dA 2, 1, .inr (.inl (va_up og 0 v9))))] : va_W) ++ (MW dA mm mad M ++ (VW dA h ad u8))) from List.perm_append_comm_assoc (MW dA mm mad M) (([(o, .inl (dA 2, 1, .inr (.inl (va_up og 0 v9))))] : va_W)) (VW dA h ad u8)) hP
  have hD := pmD (show List.Perm (α := Nat × va_E) (MW dA mm mad M ++ (([(o, .inl (dA 2, 1, .inr (.inl (va_up og 0 v9))))] : va_W) ++ (VW dA h ad u8))) (([(o, .inl (dA 2, 1, .inr (.inl (va_up og 0 v9))))] : va_W) ++ (MW dA mm mad M ++ (VW dA h ad u8))) from List.perm_append_comm_assoc (MW dA mm mad M) (([(o, .inl (dA 2, 1, .inr (.inl (va_up og 0 v9))))] : va_W)) (VW dA h ad u8)) hD
  have hP := pmP (show List.Perm (α := Nat × va_E) (([(o, .inl (dA 2, 1, .inr (.inl (va_up og 0 v9))))] : va_W) ++ (MW dA mm mad M ++ (VW dA h ad u8))) (([(o, .inl (dA 2, 1, .inr (.inl (va_up og 0 v9))))] : va_W) ++ (VW dA h ad u8 ++ (MW dA mm mad M))) from List.Perm.append_left (([(o, .inl (dA 2, 1, .inr (.inl (va_up og 0 v9))))] : va_W)) (List.perm_append_comm)) hP
  have hD := pmD (show List.Perm (α := Nat × va_E) (([(o, .inl (dA 2, 1, .inr (.inl (va_up og 0 v9))))] : va_W) ++ (MW dA mm mad M ++ (VW dA h ad u8))) (([(o, .inl (dA 2, 1, .inr (.inl (va_up og 0 v9))))] : va_W) ++ (VW dA h ad u8 ++ (MW dA mm mad M))) from List.Perm.append_left (([(o, .inl (dA 2, 1, .inr (.inl (va_up og 0 v9))))] : va_W)) (List.perm_append_comm)) hD
  have hPc : va_P D vwCl (MW dA mm mad M) H := spP (wr := ([(o, .inl (dA 2, 1, .inr (.inl (va_up og 0 v9))))] : va_W) ++ (VW dA h ad u8)) hP
  have hDc : va_D A (MW dA mm mad M) := spD (wr := ([(o, .inl (dA 2, 1, .inr (.inl (va_up og 0 v9))))] : va_W) ++ (VW dA h ad u8)) hD
  refine jkI (wr := ([(o, .inl (dA 2, 1, .inr (.inl (va_up og 0 v9))))] : va_W) ++ (VW dA h ad u8)) (rnV (As := [.int (xs (i + 1))]) (rest := []) hx hb hml hown hE hK (hN _ _ hS) hPc hDc (hM H.size) (q0 := 0) rfl rfl w1829 w1828 w1830 w1831 w328 rfl rfl ⟨⟨by decide, by decide⟩, rfl⟩ ⟨(show fr2 + 1 ≤ 2048 by omega), (show 8 + (2 + 11) + lo2 ≤ 84000 by omega)⟩ rfl hl.1 rfl (Nat.le_of_ble_eq_true rfl) d_SeriesVaultLaw_law_408 ⟨(show cells + mc9 + 0 ≤ 601024 by omega), (show slots + ms9 + 0 ≤ 7293034 by omega)⟩) hP hD hS hA (fun r7 u7 H locs hp9 hP hD hS => ?_)
  replace hp9 : b9 = r7 := Eq.symm hp9
  subst hp9
  have hP : va_P D vwCl (([(o, .inl (dA 2, 1, .inr (.inl (va_up og 0 v9))))] : va_W) ++ (VW dA h ad u8 ++ (MW dA mm mad M1))) H := hP
  have hD : va_D A (([(o, .inl (dA 2, 1, .inr (.inl (va_up og 0 v9))))] : va_W) ++ (VW dA h ad u8 ++ (MW dA mm mad M1))) := hD
  refine lv_istore hx hb d_SeriesVaultLaw_law_411 hl (by decide) rfl (fun ls hl => ?_)
  have hl : lv_has ls 8 [(6, .int b9), (5, .int 0), (4, .int (nI i)), (3, .ref o), (2, .ref mm), (1, .ref h), (0, .ref b)] := hl
  refine lv_aload_n hx hb d_SeriesVaultLaw_law_413 rfl (lv_at hl 4 rfl) ?_
  have hPc : va_P D vwCl (MW dA mm mad M1) H := spP (wr := ([(o, .inl (dA 2, 1, .inr (.inl (va_up og 0 v9))))] : va_W) ++ (VW dA h ad u8)) hP
  have hDc : va_D A (MW dA mm mad M1) := spD (wr := ([(o, .inl (dA 2, 1, .inr (.inl (va_up og 0 v9))))] : va_W) ++ (VW dA h ad u8)) hD
  refine jkI (wr := ([(o, .inl (dA 2, 1, .inr (.inl (va_up og 0 v9))))] : va_W) ++ (VW dA h ad u8)) (rnV (As := []) (rest := []) hx hb hml hown hE hK (hN _ _ hS) hPc hDc (k_thrown l D dA H.size mm mad M1) (q0 := 0) rfl rfl w1801 w1800 w1802 w1803 w328 rfl rfl ⟨⟨by decide, by decide⟩, rfl⟩ ⟨(show 1 + 1 ≤ 2048 by omega), (show 8 + (1 + 11) + 0 ≤ 84000 by omega)⟩ rfl hl.1 rfl (Nat.le_of_ble_eq_true rfl) d_SeriesVaultLaw_law_414 ⟨(show cells + mc9 + 0 ≤ 601024 by omega), (show slots + ms9 + 0 ≤ 7293034 by omega)⟩) hP hD hS hA (fun r7 u7 H locs hp9 hP hD hS => ?_)
  replace hp9 : 0 = r7 := Eq.symm (hp9.trans hcod)
  subst hp9
  have hP : va_P D vwCl (([(o, .inl (dA 2, 1, .inr (.inl (va_up og 0 v9))))] : va_W) ++ (VW dA h ad u8 ++ (MW dA mm mad M1))) H := hP
  have hD : va_D A (([(o, .inl (dA 2, 1, .inr (.inl (va_up og 0 v9))))] : va_W) ++ (VW dA h ad u8 ++ (MW dA mm mad M1))) := hD
  refine lv_iload hx hb d_SeriesVaultLaw_law_417 (lv_at hl 1 rfl) ?_
  refine lv_icmp_eq hx hb d_SeriesVaultLaw_law_419 (tgt := 424) rfl (fun _ => ?_) (fun h9 => absurd rfl h9)
  refine lv_iload hx hb d_SeriesVaultLaw_law_424 (lv_at hl 1 rfl) ?_
  refine lv_if_ne hx hb d_SeriesVaultLaw_law_426 (tgt := 441) rfl (fun h9 => absurd (by decide) h9) (fun _ => ?_)
  refine lv_aload_n hx hb d_SeriesVaultLaw_law_429 rfl (lv_at hl 3 rfl) ?_
  refine lv_iconst (v := 0) hx hb d_SeriesVaultLaw_law_430 (by decide) ?_
  refine nlld (f := (va_up og 0 v9)) (n := 1) hx hb hK hP (0) 2 rfl rfl (0) (by decide) (by decide) d_SeriesVaultLaw_law_431 ?_
  refine tpl (y := v9) (va_up_self _ _ _) ?_
  refine lv_iload hx hb d_SeriesVaultLaw_law_432 (lv_at hl 0 rfl) ?_
  refine lv_i2l hx hb d_SeriesVaultLaw_law_434 rfl ?_
  refine W.lcmp hx hb d_SeriesVaultLaw_law_435 ?_
  refine lv_if_eq hx hb d_SeriesVaultLaw_law_436 (tgt := 441) rfl (fun _ => ?_) (fun h9 => absurd ((lg_cmp_eq _ _).mpr hv) h9)
  refine lv_goto hx hb d_SeriesVaultLaw_law_441 (tgt := 1770) rfl ?_
  refine lv_iinc (k := 2) (v := nI (i + 6)) hx hb d_SeriesVaultLaw_law_1770 hl rfl (iincN (i) 6 6 (by decide)) (by decide) rfl (fun ls hl => ?_)
  have hl : lv_has ls 8 [(4, .int (nI (i + 6))), (6, .int b9), (5, .int 0), (3, .ref o), (2, .ref mm), (1, .ref h), (0, .ref b)] := hl
  refine lv_goto hx hb d_SeriesVaultLaw_law_1773 (tgt := 23) rfl ?_
  have hP := pmP (show List.Perm (α := Nat × va_E) (([(o, .inl (dA 2, 1, .inr (.inl (va_up og 0 v9))))] : va_W) ++ (VW dA h ad u8 ++ (MW dA mm mad M1))) (MW dA mm mad M1 ++ (([(o, .inl (dA 2, 1, .inr (.inl (va_up og 0 v9))))] : va_W) ++ (VW dA h ad u8))) from (List.Perm.append_left (([(o, .inl (dA 2, 1, .inr (.inl (va_up og 0 v9))))] : va_W)) (List.perm_append_comm)).trans (List.perm_append_comm_assoc (([(o, .inl (dA 2, 1, .inr (.inl (va_up og 0 v9))))] : va_W)) (MW dA mm mad M1) (VW dA h ad u8))) hP
  have hD := pmD (show List.Perm (α := Nat × va_E) (([(o, .inl (dA 2, 1, .inr (.inl (va_up og 0 v9))))] : va_W) ++ (VW dA h ad u8 ++ (MW dA mm mad M1))) (MW dA mm mad M1 ++ (([(o, .inl (dA 2, 1, .inr (.inl (va_up og 0 v9))))] : va_W) ++ (VW dA h ad u8))) from (List.Perm.append_left (([(o, .inl (dA 2, 1, .inr (.inl (va_up og 0 v9))))] : va_W)) (List.perm_append_comm)).trans (List.perm_append_comm_assoc (([(o, .inl (dA 2, 1, .inr (.inl (va_up og 0 v9))))] : va_W)) (MW dA mm mad M1) (VW dA h ad u8))) hD
  have hP : va_P D vwCl (MW dA mm mad M1 ++ (([(o, .inl (dA 2, 1, .inr (.inl (va_up og 0 v9))))] : va_W) ++ (VW dA h ad u8))) H := hP
  have hD : va_D A (MW dA mm mad M1 ++ (([(o, .inl (dA 2, 1, .inr (.inl (va_up og 0 v9))))] : va_W) ++ (VW dA h ad u8))) := hD
  have hl := lv_sub (l' := [(4, .int (nI (i + 6))), (3, .ref o), (2, .ref mm), (1, .ref h), (0, .ref b)]) hl [0, 3, 4, 5, 6] rfl
  exact cont u8 H locs ls hf9 hP hD hS hl
set_option maxHeartbeats 4000000 in
set_option maxRecDepth 100000 in
theorem l9_4_x {p : Program} {e : Env} {s : State} {m : MethodId} {below : List Frame} {meth : Method} {c : Code} (l : Launch) {b L : Nat} {xs : Nat → Int32} {D : va_G} {dA : Nat → ClassId} {e0 : Nat} {A : Nat → Prop} {H : Heap} {locs : List Loc} {ls : Array Slot} (hC : lS p l s m meth c b L xs D dA e0 A) {h : Nat} {ad : Nat → Nat} {x : VS} {mm : Nat} {mad : Nat → Nat} {M M1 : MS} {o : Nat} {og : Nat → Int64} {i fr1 lo1 fr2 lo2 mc9 ms9 cells slots : Nat} {F9 : VS → Prop} {b9 : Int32} {k9 : Nat} (hi : i + 6 ≤ L) (hL : L ≤ 3072) (hfr : fr1 ≤ 2000 ∧ lo1 ≤ 80000 ∧ fr2 ≤ 2000 ∧ lo2 ≤ 80000) (hrm : cells + mc9 ≤ 601024 ∧ slots + ms9 ≤ 7293034) (hcod : M1.cod = nI k9) (hk9 : ¬ nI k9 = 0) (hW : ∀ sz : Nat, Met l ⟨"SeriesVaultLaw", "fault", "(LSeriesVault;I[J)I"⟩ [Cond.codeWith ⟨"SeriesVaultLaw", "fault", "(LSeriesVault;I[J)I"⟩ method_7_code 4 (some FieldType.int) [(0, 9, 12, 35)]] { frames := fr1, cells := mc9, slots := ms9, locals := lo1 } (pC D dA [.ref h, .int (xs (i + 1)), .ref o] (([(o, .inl (dA 2, 1, .inr (.inl og)))] : va_W) ++ (VW dA h ad x)) sz) (va_Qi (fun (r9 : Int32) (u9 : VS) => r9 = nI k9 ∧ F9 u9) (fun (u9 : VS) t9 => bW D (va_A (([(o, .inl (dA 2, 1, .inr (.inl og)))] : va_W) ++ (VW dA h ad x)) sz) (([(o, .inl (dA 2, 1, .inr (.inl (og))))] : va_W) ++ (VW dA h ad u9)) t9) (va_A (([(o, .inl (dA 2, 1, .inr (.inl og)))] : va_W) ++ (VW dA h ad x)) sz)) mc9 ms9 (va_A (([(o, .inl (dA 2, 1, .inr (.inl og)))] : va_W) ++ (VW dA h ad x)) sz)) (hM : ∀ sz : Nat, Met l ⟨"SeriesVaultModel", "fault", "(I)I"⟩ [Cond.code ⟨"SeriesVaultModel", "fault", "(I)I"⟩ prog_14_method_5_code 2 (some FieldType.int)] { frames := fr2, cells := 0, slots := 0, locals := lo2 } (pC D dA [.ref mm, .int (xs (i + 1))] (MW dA mm mad M) sz) (va_Qi (fun (r9 : Int32) (u9 : Unit) => r9 = b9) (fun (u9 : Unit) t9 => bW D (va_A (MW dA mm mad M) sz) (MW dA mm mad M1) t9) (va_A (MW dA mm mad M) sz)) 0 0 (va_A (MW dA mm mad M) sz)) (hP : va_P D vwCl (MW dA mm mad M ++ (([(o, .inl (dA 2, 1, .inr (.inl og)))] : va_W) ++ (VW dA h ad x))) H) (hD : va_D A (MW dA mm mad M ++ (([(o, .inl (dA 2, 1, .inr (.inl og)))] : va_W) ++ (VW dA h ad x)))) (hS : va_S A s.heap H locs) (hl : lv_has ls 8 [(4, .int (nI i)), (3, .ref o), (2, .ref mm), (1, .ref h), (0, .ref b)]) (cont : ∀ (u : VS) (H1 : Heap) (locs1 : List Loc) (ls1 : Array Slot), F9 u → va_P D vwCl (MW dA mm mad M1 ++ (([(o, .inl (dA 2, 1, .inr (.inl og)))] : va_W) ++ (VW dA h ad u))) H1 → va_D A (MW dA mm mad M1 ++ (([(o, .inl (dA 2, 1, .inr (.inl og)))] : va_W) ++ (VW dA h ad u))) → va_S A s.heap H1 locs1 → lv_has ls1 8 [(4, .int (nI (i + 6))), (3, .ref o), (2, .ref mm), (1, .ref h), (0, .ref b)] → W p l e room_1 s m #[Value.ref b] below meth c H1 locs1 (cells + mc9 + 0 + 0) (slots + ms9 + 0 + 0) (lw_Z below #[Value.ref b] s) (F0 m 23 ls1 [])) : W p l e room_1 s m #[Value.ref b] below meth c H locs cells slots (lw_Z below #[Value.ref b] s) (F0 m 388 ls []) := by
  have hC0 := hC
  obtain ⟨hx, hb, hr, hml, hown, hlk, hE, hK, hA, hN, hZ, hT, hX, hbl, hbA, hnew, htr⟩ := hC
  refine lv_aload_n hx hb d_SeriesVaultLaw_law_388 rfl (lv_at hl 3 rfl) ?_
  refine lv_aload_n hx hb d_SeriesVaultLaw_law_389 rfl (lv_at hl 4 rfl) ?_
  refine lv_iload hx hb d_SeriesVaultLaw_law_390 (lv_at hl 0 rfl) ?_
  refine lv_iconst (v := 1) hx hb d_SeriesVaultLaw_law_392 (by decide) ?_
  refine lv_iadd hx hb d_SeriesVaultLaw_law_393 (tpi (y := nI (i + 1)) (nI_add (i) (1)) ?_)
  refine sldN hx hb hX hbl hbA hS (show i + 1 < L by omega) (show L ≤ 65536 by omega) d_SeriesVaultLaw_law_394 ?_
  refine lv_aload_n hx hb d_SeriesVaultLaw_law_395 rfl (lv_at hl 1 rfl) ?_
  have hPc : va_P D vwCl (([(o, .inl (dA 2, 1, .inr (.inl og)))] : va_W) ++ (VW dA h ad x)) H := spP (wr := MW dA mm mad M) hP
  have hDc : va_D A (([(o, .inl (dA 2, 1, .inr (.inl og)))] : va_W) ++ (VW dA h ad x)) := spD (wr := MW dA mm mad M) hD
  refine jkI (wr := MW dA mm mad M) (rnW (As := [.ref h, .int (xs (i + 1)), .ref o]) (rest := []) hx hb hml hown hE hK (hN _ _ hS) hPc hDc (hW H.size) w1826 w1825 w1827 w1793 rfl rfl ⟨⟨by decide, by decide⟩, rfl⟩ ⟨(show fr1 + 1 ≤ 2048 by omega), (show 8 + (4 + 11) + lo1 ≤ 84000 by omega)⟩ rfl hl.1 rfl (Nat.le_of_ble_eq_true rfl) d_SeriesVaultLaw_law_396 ⟨(show cells + mc9 ≤ 601024 by omega), (show slots + ms9 ≤ 7293034 by omega)⟩) hP hD hS hA (fun k8 u8 H locs hp9 hP hD hS => ?_)
  obtain ⟨hp9, hf9⟩ := hp9
  replace hp9 : nI k9 = k8 := Eq.symm hp9
  subst hp9
  have hP : va_P D vwCl (MW dA mm mad M ++ (([(o, .inl (dA 2, 1, .inr (.inl og)))] : va_W) ++ (VW dA h ad u8))) H := hP
  have hD : va_D A (MW dA mm mad M ++ (([(o, .inl (dA 2, 1, .inr (.inl og)))] : va_W) ++ (VW dA h ad u8))) := hD
  refine lv_istore hx hb d_SeriesVaultLaw_law_399 hl (by decide) rfl (fun ls hl => ?_)
  have hl : lv_has ls 8 [(5, .int (nI k9)), (4, .int (nI i)), (3, .ref o), (2, .ref mm), (1, .ref h), (0, .ref b)] := hl
  refine lv_aload_n hx hb d_SeriesVaultLaw_law_401 rfl (lv_at hl 3 rfl) ?_
  refine lv_aload_n hx hb d_SeriesVaultLaw_law_402 rfl (lv_at hl 5 rfl) ?_
  refine lv_iload hx hb d_SeriesVaultLaw_law_403 (lv_at hl 1 rfl) ?_
  refine lv_iconst (v := 1) hx hb d_SeriesVaultLaw_law_405 (by decide) ?_
  refine lv_iadd hx hb d_SeriesVaultLaw_law_406 (tpi (y := nI (i + 1)) (nI_add (i) (1)) ?_)
  refine sldN hx hb hX hbl hbA hS (show i + 1 < L by omega) (show L ≤ 65536 by omega) d_SeriesVaultLaw_law_407 ?_
  have hP := pmP (show List.Perm (α := Nat × va_E) (MW dA mm mad M ++ (([(o, .inl (dA 2, 1, .inr (.inl og)))] : va_W) ++ (VW dA h ad u8))) (([(o, .inl (dA 2, 1, .inr (.inl og)))] : va_W) ++ (MW dA mm mad M ++ (VW dA h ad u8))) from List.perm_append_comm_assoc (MW dA mm mad M) (([(o, .inl (dA 2, 1, .inr (.inl og)))] : va_W)) (VW dA h ad u8)) hP
  have hD := pmD (show List.Perm (α := Nat × va_E) (MW dA mm mad M ++ (([(o, .inl (dA 2, 1, .inr (.inl og)))] : va_W) ++ (VW dA h ad u8))) (([(o, .inl (dA 2, 1, .inr (.inl og)))] : va_W) ++ (MW dA mm mad M ++ (VW dA h ad u8))) from List.perm_append_comm_assoc (MW dA mm mad M) (([(o, .inl (dA 2, 1, .inr (.inl og)))] : va_W)) (VW dA h ad u8)) hD
  have hP := pmP (show List.Perm (α := Nat × va_E) (([(o, .inl (dA 2, 1, .inr (.inl og)))] : va_W) ++ (MW dA mm mad M ++ (VW dA h ad u8))) (([(o, .inl (dA 2, 1, .inr (.inl og)))] : va_W) ++ (VW dA h ad u8 ++ (MW dA mm mad M))) from List.Perm.append_left (([(o, .inl (dA 2, 1, .inr (.inl og)))] : va_W)) (List.perm_append_comm)) hP
  have hD := pmD (show List.Perm (α := Nat × va_E) (([(o, .inl (dA 2, 1, .inr (.inl og)))] : va_W) ++ (MW dA mm mad M ++ (VW dA h ad u8))) (([(o, .inl (dA 2, 1, .inr (.inl og)))] : va_W) ++ (VW dA h ad u8 ++ (MW dA mm mad M))) from List.Perm.append_left (([(o, .inl (dA 2, 1, .inr (.inl og)))] : va_W)) (List.perm_append_comm)) hD
  have hPc : va_P D vwCl (MW dA mm mad M) H := spP (wr := ([(o, .inl (dA 2, 1, .inr (.inl og)))] : va_W) ++ (VW dA h ad u8)) hP
  have hDc : va_D A (MW dA mm mad M) := spD (wr := ([(o, .inl (dA 2, 1, .inr (.inl og)))] : va_W) ++ (VW dA h ad u8)) hD
  refine jkI (wr := ([(o, .inl (dA 2, 1, .inr (.inl og)))] : va_W) ++ (VW dA h ad u8)) (rnV (As := [.int (xs (i + 1))]) (rest := []) hx hb hml hown hE hK (hN _ _ hS) hPc hDc (hM H.size) (q0 := 0) rfl rfl w1829 w1828 w1830 w1831 w328 rfl rfl ⟨⟨by decide, by decide⟩, rfl⟩ ⟨(show fr2 + 1 ≤ 2048 by omega), (show 8 + (2 + 11) + lo2 ≤ 84000 by omega)⟩ rfl hl.1 rfl (Nat.le_of_ble_eq_true rfl) d_SeriesVaultLaw_law_408 ⟨(show cells + mc9 + 0 ≤ 601024 by omega), (show slots + ms9 + 0 ≤ 7293034 by omega)⟩) hP hD hS hA (fun r7 u7 H locs hp9 hP hD hS => ?_)
  replace hp9 : b9 = r7 := Eq.symm hp9
  subst hp9
  have hP : va_P D vwCl (([(o, .inl (dA 2, 1, .inr (.inl og)))] : va_W) ++ (VW dA h ad u8 ++ (MW dA mm mad M1))) H := hP
  have hD : va_D A (([(o, .inl (dA 2, 1, .inr (.inl og)))] : va_W) ++ (VW dA h ad u8 ++ (MW dA mm mad M1))) := hD
  refine lv_istore hx hb d_SeriesVaultLaw_law_411 hl (by decide) rfl (fun ls hl => ?_)
  have hl : lv_has ls 8 [(6, .int b9), (5, .int (nI k9)), (4, .int (nI i)), (3, .ref o), (2, .ref mm), (1, .ref h), (0, .ref b)] := hl
  refine lv_aload_n hx hb d_SeriesVaultLaw_law_413 rfl (lv_at hl 4 rfl) ?_
  have hPc : va_P D vwCl (MW dA mm mad M1) H := spP (wr := ([(o, .inl (dA 2, 1, .inr (.inl og)))] : va_W) ++ (VW dA h ad u8)) hP
  have hDc : va_D A (MW dA mm mad M1) := spD (wr := ([(o, .inl (dA 2, 1, .inr (.inl og)))] : va_W) ++ (VW dA h ad u8)) hD
  refine jkI (wr := ([(o, .inl (dA 2, 1, .inr (.inl og)))] : va_W) ++ (VW dA h ad u8)) (rnV (As := []) (rest := []) hx hb hml hown hE hK (hN _ _ hS) hPc hDc (k_thrown l D dA H.size mm mad M1) (q0 := 0) rfl rfl w1801 w1800 w1802 w1803 w328 rfl rfl ⟨⟨by decide, by decide⟩, rfl⟩ ⟨(show 1 + 1 ≤ 2048 by omega), (show 8 + (1 + 11) + 0 ≤ 84000 by omega)⟩ rfl hl.1 rfl (Nat.le_of_ble_eq_true rfl) d_SeriesVaultLaw_law_414 ⟨(show cells + mc9 + 0 ≤ 601024 by omega), (show slots + ms9 + 0 ≤ 7293034 by omega)⟩) hP hD hS hA (fun r7 u7 H locs hp9 hP hD hS => ?_)
  replace hp9 : nI k9 = r7 := Eq.symm (hp9.trans hcod)
  subst hp9
  have hP : va_P D vwCl (([(o, .inl (dA 2, 1, .inr (.inl og)))] : va_W) ++ (VW dA h ad u8 ++ (MW dA mm mad M1))) H := hP
  have hD : va_D A (([(o, .inl (dA 2, 1, .inr (.inl og)))] : va_W) ++ (VW dA h ad u8 ++ (MW dA mm mad M1))) := hD
  refine lv_iload hx hb d_SeriesVaultLaw_law_417 (lv_at hl 1 rfl) ?_
  refine lv_icmp_eq hx hb d_SeriesVaultLaw_law_419 (tgt := 424) rfl (fun _ => ?_) (fun h9 => absurd rfl h9)
  refine lv_iload hx hb d_SeriesVaultLaw_law_424 (lv_at hl 1 rfl) ?_
  refine lv_if_ne hx hb d_SeriesVaultLaw_law_426 (tgt := 441) rfl (fun _ => ?_) (fun h9 => absurd h9 hk9)
  refine lv_goto hx hb d_SeriesVaultLaw_law_441 (tgt := 1770) rfl ?_
  refine lv_iinc (k := 2) (v := nI (i + 6)) hx hb d_SeriesVaultLaw_law_1770 hl rfl (iincN (i) 6 6 (by decide)) (by decide) rfl (fun ls hl => ?_)
  have hl : lv_has ls 8 [(4, .int (nI (i + 6))), (6, .int b9), (5, .int (nI k9)), (3, .ref o), (2, .ref mm), (1, .ref h), (0, .ref b)] := hl
  refine lv_goto hx hb d_SeriesVaultLaw_law_1773 (tgt := 23) rfl ?_
  have hP := pmP (show List.Perm (α := Nat × va_E) (([(o, .inl (dA 2, 1, .inr (.inl og)))] : va_W) ++ (VW dA h ad u8 ++ (MW dA mm mad M1))) (MW dA mm mad M1 ++ (([(o, .inl (dA 2, 1, .inr (.inl og)))] : va_W) ++ (VW dA h ad u8))) from (List.Perm.append_left (([(o, .inl (dA 2, 1, .inr (.inl og)))] : va_W)) (List.perm_append_comm)).trans (List.perm_append_comm_assoc (([(o, .inl (dA 2, 1, .inr (.inl og)))] : va_W)) (MW dA mm mad M1) (VW dA h ad u8))) hP
  have hD := pmD (show List.Perm (α := Nat × va_E) (([(o, .inl (dA 2, 1, .inr (.inl og)))] : va_W) ++ (VW dA h ad u8 ++ (MW dA mm mad M1))) (MW dA mm mad M1 ++ (([(o, .inl (dA 2, 1, .inr (.inl og)))] : va_W) ++ (VW dA h ad u8))) from (List.Perm.append_left (([(o, .inl (dA 2, 1, .inr (.inl og)))] : va_W)) (List.perm_append_comm)).trans (List.perm_append_comm_assoc (([(o, .inl (dA 2, 1, .inr (.inl og)))] : va_W)) (MW dA mm mad M1) (VW dA h ad u8))) hD
  have hP : va_P D vwCl (MW dA mm mad M1 ++ (([(o, .inl (dA 2, 1, .inr (.inl og)))] : va_W) ++ (VW dA h ad u8))) H := hP
  have hD : va_D A (MW dA mm mad M1 ++ (([(o, .inl (dA 2, 1, .inr (.inl og)))] : va_W) ++ (VW dA h ad u8))) := hD
  have hl := lv_sub (l' := [(4, .int (nI (i + 6))), (3, .ref o), (2, .ref mm), (1, .ref h), (0, .ref b)]) hl [0, 3, 4, 5, 6] rfl
  exact cont u8 H locs ls hf9 hP hD hS hl
end
section
theorem d_SeriesVaultLaw_law_444 : decode code 444 = .ok (.aload_n 1, 1) := by decide +kernel
theorem d_SeriesVaultLaw_law_445 : decode code 445 = .ok (.aload_n 0, 1) := by decide +kernel
theorem d_SeriesVaultLaw_law_446 : decode code 446 = .ok (.iload 4, 2) := by decide +kernel
theorem d_SeriesVaultLaw_law_448 : decode code 448 = .ok (.iconst 1, 1) := by decide +kernel
theorem d_SeriesVaultLaw_law_449 : decode code 449 = .ok (.iadd, 1) := by decide +kernel
theorem d_SeriesVaultLaw_law_450 : decode code 450 = .ok (.iaload, 1) := by decide +kernel
theorem d_SeriesVaultLaw_law_451 : decode code 451 = .ok (.aload_n 0, 1) := by decide +kernel
theorem d_SeriesVaultLaw_law_452 : decode code 452 = .ok (.iload 4, 2) := by decide +kernel
theorem d_SeriesVaultLaw_law_454 : decode code 454 = .ok (.iconst 2, 1) := by decide +kernel
theorem d_SeriesVaultLaw_law_455 : decode code 455 = .ok (.iadd, 1) := by decide +kernel
theorem d_SeriesVaultLaw_law_456 : decode code 456 = .ok (.iaload, 1) := by decide +kernel
theorem d_SeriesVaultLaw_law_457 : decode code 457 = .ok (.aload_n 3, 1) := by decide +kernel
theorem d_SeriesVaultLaw_law_458 : decode code 458 = .ok (.invokestatic 129, 3) := by decide +kernel
theorem d_SeriesVaultLaw_law_461 : decode code 461 = .ok (.istore 5, 2) := by decide +kernel
theorem d_SeriesVaultLaw_law_463 : decode code 463 = .ok (.aload_n 2, 1) := by decide +kernel
theorem d_SeriesVaultLaw_law_464 : decode code 464 = .ok (.aload_n 0, 1) := by decide +kernel
theorem d_SeriesVaultLaw_law_465 : decode code 465 = .ok (.iload 4, 2) := by decide +kernel
theorem d_SeriesVaultLaw_law_467 : decode code 467 = .ok (.iconst 1, 1) := by decide +kernel
theorem d_SeriesVaultLaw_law_468 : decode code 468 = .ok (.iadd, 1) := by decide +kernel
theorem d_SeriesVaultLaw_law_469 : decode code 469 = .ok (.iaload, 1) := by decide +kernel
theorem d_SeriesVaultLaw_law_470 : decode code 470 = .ok (.aload_n 0, 1) := by decide +kernel
theorem d_SeriesVaultLaw_law_471 : decode code 471 = .ok (.iload 4, 2) := by decide +kernel
theorem d_SeriesVaultLaw_law_473 : decode code 473 = .ok (.iconst 2, 1) := by decide +kernel
theorem d_SeriesVaultLaw_law_474 : decode code 474 = .ok (.iadd, 1) := by decide +kernel
theorem d_SeriesVaultLaw_law_475 : decode code 475 = .ok (.iaload, 1) := by decide +kernel
theorem d_SeriesVaultLaw_law_476 : decode code 476 = .ok (.invokevirtual 132, 3) := by decide +kernel
theorem d_SeriesVaultLaw_law_479 : decode code 479 = .ok (.istore 6, 2) := by decide +kernel
theorem d_SeriesVaultLaw_law_481 : decode code 481 = .ok (.aload_n 2, 1) := by decide +kernel
theorem d_SeriesVaultLaw_law_482 : decode code 482 = .ok (.invokevirtual 110, 3) := by decide +kernel
theorem d_SeriesVaultLaw_law_485 : decode code 485 = .ok (.iload 5, 2) := by decide +kernel
theorem d_SeriesVaultLaw_law_487 : decode code 487 = .ok (.if_icmp .eq 5, 3) := by decide +kernel
theorem d_SeriesVaultLaw_law_492 : decode code 492 = .ok (.iload 5, 2) := by decide +kernel
theorem d_SeriesVaultLaw_law_494 : decode code 494 = .ok (.ifCond .ne 15, 3) := by decide +kernel
theorem d_SeriesVaultLaw_law_497 : decode code 497 = .ok (.aload_n 3, 1) := by decide +kernel
theorem d_SeriesVaultLaw_law_498 : decode code 498 = .ok (.iconst 0, 1) := by decide +kernel
theorem d_SeriesVaultLaw_law_499 : decode code 499 = .ok (.laload, 1) := by decide +kernel
theorem d_SeriesVaultLaw_law_500 : decode code 500 = .ok (.iload 6, 2) := by decide +kernel
theorem d_SeriesVaultLaw_law_502 : decode code 502 = .ok (.i2l, 1) := by decide +kernel
theorem d_SeriesVaultLaw_law_503 : decode code 503 = .ok (.lcmp, 1) := by decide +kernel
theorem d_SeriesVaultLaw_law_504 : decode code 504 = .ok (.ifCond .eq 5, 3) := by decide +kernel
theorem d_SeriesVaultLaw_law_509 : decode code 509 = .ok (.goto 1261, 3) := by decide +kernel
theorem w1832 : Cond.methodLink "SeriesVaultLaw" 129 ⟨"SeriesVaultLaw", "letter", "(LSeriesVault;II[J)I"⟩ ∈ aW := aw_of (tb_5 (List.mem_of_getElem? (i := 115) rfl)) rfl
theorem w1833 : Cond.codeWith ⟨"SeriesVaultLaw", "letter", "(LSeriesVault;II[J)I"⟩ method_8_code 5 (some FieldType.int) [(0, 10, 13, 29), (0, 10, 17, 35)] ∈ aW := aw_of (tb_5 (List.mem_of_getElem? (i := 117) rfl)) rfl
theorem w1834 : Cond.static ⟨"SeriesVaultLaw", "letter", "(LSeriesVault;II[J)I"⟩ ∈ aW := aw_of (tb_5 (List.mem_of_getElem? (i := 116) rfl)) rfl
theorem w1835 : Cond.methodLink "SeriesVaultLaw" 132 ⟨"SeriesVaultModel", "letter", "(II)I"⟩ ∈ aW := aw_of (tb_10 (List.mem_of_getElem? (i := 7) rfl)) rfl
theorem w1836 : Cond.code ⟨"SeriesVaultModel", "letter", "(II)I"⟩ prog_14_method_31_code 3 (some FieldType.int) ∈ aW := aw_of (tb_10 (List.mem_of_getElem? (i := 10) rfl)) rfl
theorem w1837 : Cond.instanceMethod ⟨"SeriesVaultModel", "letter", "(II)I"⟩ ∈ aW := aw_of (tb_10 (List.mem_of_getElem? (i := 8) rfl)) rfl
theorem w1838 : Cond.selects "SeriesVaultModel" ⟨"SeriesVaultModel", "letter", "(II)I"⟩ ⟨"SeriesVaultModel", "letter", "(II)I"⟩ ∈ aW := aw_of (tb_10 (List.mem_of_getElem? (i := 9) rfl)) rfl
set_option maxHeartbeats 4000000 in
set_option maxRecDepth 100000 in
theorem l9_5 {p : Program} {e : Env} {s : State} {m : MethodId} {below : List Frame} {meth : Method} {c : Code} (l : Launch) {b L : Nat} {xs : Nat → Int32} {D : va_G} {dA : Nat → ClassId} {e0 : Nat} {A : Nat → Prop} {H : Heap} {locs : List Loc} {ls : Array Slot} (hC : lS p l s m meth c b L xs D dA e0 A) {h : Nat} {ad : Nat → Nat} {x : VS} {mm : Nat} {mad : Nat → Nat} {M M1 : MS} {o : Nat} {og : Nat → Int64} {i fr1 lo1 fr2 lo2 mc9 ms9 cells slots : Nat} {F9 : VS → Prop} {b9 : Int32} {v9 : Int64} (hi : i + 6 ≤ L) (hL : L ≤ 3072) (hfr : fr1 ≤ 2000 ∧ lo1 ≤ 80000 ∧ fr2 ≤ 2000 ∧ lo2 ≤ 80000) (hrm : cells + mc9 ≤ 601024 ∧ slots + ms9 ≤ 7293034) (hcod : M1.cod = 0) (hv : v9 = b9.toInt64) (hW : ∀ sz : Nat, Met l ⟨"SeriesVaultLaw", "letter", "(LSeriesVault;II[J)I"⟩ [Cond.codeWith ⟨"SeriesVaultLaw", "letter", "(LSeriesVault;II[J)I"⟩ method_8_code 5 (some FieldType.int) [(0, 10, 13, 29), (0, 10, 17, 35)]] { frames := fr1, cells := mc9, slots := ms9, locals := lo1 } (pC D dA [.ref h, .int (xs (i + 1)), .int (xs (i + 2)), .ref o] (([(o, .inl (dA 2, 1, .inr (.inl og)))] : va_W) ++ (VW dA h ad x)) sz) (va_Qi (fun (r9 : Int32) (u9 : VS) => r9 = 0 ∧ F9 u9) (fun (u9 : VS) t9 => bW D (va_A (([(o, .inl (dA 2, 1, .inr (.inl og)))] : va_W) ++ (VW dA h ad x)) sz) (([(o, .inl (dA 2, 1, .inr (.inl (va_up og 0 v9))))] : va_W) ++ (VW dA h ad u9)) t9) (va_A (([(o, .inl (dA 2, 1, .inr (.inl og)))] : va_W) ++ (VW dA h ad x)) sz)) mc9 ms9 (va_A (([(o, .inl (dA 2, 1, .inr (.inl og)))] : va_W) ++ (VW dA h ad x)) sz)) (hM : ∀ sz : Nat, Met l ⟨"SeriesVaultModel", "letter", "(II)I"⟩ [Cond.code ⟨"SeriesVaultModel", "letter", "(II)I"⟩ prog_14_method_31_code 3 (some FieldType.int)] { frames := fr2, cells := 0, slots := 0, locals := lo2 } (pC D dA [.ref mm, .int (xs (i + 1)), .int (xs (i + 2))] (MW dA mm mad M) sz) (va_Qi (fun (r9 : Int32) (u9 : Unit) => r9 = b9) (fun (u9 : Unit) t9 => bW D (va_A (MW dA mm mad M) sz) (MW dA mm mad M1) t9) (va_A (MW dA mm mad M) sz)) 0 0 (va_A (MW dA mm mad M) sz)) (hP : va_P D vwCl (MW dA mm mad M ++ (([(o, .inl (dA 2, 1, .inr (.inl og)))] : va_W) ++ (VW dA h ad x))) H) (hD : va_D A (MW dA mm mad M ++ (([(o, .inl (dA 2, 1, .inr (.inl og)))] : va_W) ++ (VW dA h ad x)))) (hS : va_S A s.heap H locs) (hl : lv_has ls 8 [(4, .int (nI i)), (3, .ref o), (2, .ref mm), (1, .ref h), (0, .ref b)]) (cont : ∀ (u : VS) (H1 : Heap) (locs1 : List Loc) (ls1 : Array Slot), F9 u → va_P D vwCl (MW dA mm mad M1 ++ (([(o, .inl (dA 2, 1, .inr (.inl (va_up og 0 v9))))] : va_W) ++ (VW dA h ad u))) H1 → va_D A (MW dA mm mad M1 ++ (([(o, .inl (dA 2, 1, .inr (.inl (va_up og 0 v9))))] : va_W) ++ (VW dA h ad u))) → va_S A s.heap H1 locs1 → lv_has ls1 8 [(4, .int (nI (i + 6))), (3, .ref o), (2, .ref mm), (1, .ref h), (0, .ref b)] → W p l e room_1 s m #[Value.ref b] below meth c H1 locs1 (cells + mc9 + 0 + 0) (slots + ms9 + 0 + 0) (lw_Z below #[Value.ref b] s) (F0 m 23 ls1 [])) : W p l e room_1 s m #[Value.ref b] below meth c H locs cells slots (lw_Z below #[Value.ref b] s) (F0 m 444 ls []) := by
  have hC0 := hC
  obtain ⟨hx, hb, hr, hml, hown, hlk, hE, hK, hA, hN, hZ, hT, hX, hbl, hbA, hnew, htr⟩ := hC
  refine lv_aload_n hx hb d_SeriesVaultLaw_law_444 rfl (lv_at hl 3 rfl) ?_
  refine lv_aload_n hx hb d_SeriesVaultLaw_law_445 rfl (lv_at hl 4 rfl) ?_
  refine lv_iload hx hb d_SeriesVaultLaw_law_446 (lv_at hl 0 rfl) ?_
  refine lv_iconst (v := 1) hx hb d_SeriesVaultLaw_law_448 (by decide) ?_
  refine lv_iadd hx hb d_SeriesVaultLaw_law_449 (tpi (y := nI (i + 1)) (nI_add (i) (1)) ?_)
  refine sldN hx hb hX hbl hbA hS (show i + 1 < L by omega) (show L ≤ 65536 by omega) d_SeriesVaultLaw_law_450 ?_
  refine lv_aload_n hx hb d_SeriesVaultLaw_law_451 rfl (lv_at hl 4 rfl) ?_
  refine lv_iload hx hb d_SeriesVaultLaw_law_452 (lv_at hl 0 rfl) ?_
  refine lv_iconst (v := 2) hx hb d_SeriesVaultLaw_law_454 (by decide) ?_
  refine lv_iadd hx hb d_SeriesVaultLaw_law_455 (tpi (y := nI (i + 2)) (nI_add (i) (2)) ?_)
  refine sldN hx hb hX hbl hbA hS (show i + 2 < L by omega) (show L ≤ 65536 by omega) d_SeriesVaultLaw_law_456 ?_
  refine lv_aload_n hx hb d_SeriesVaultLaw_law_457 rfl (lv_at hl 1 rfl) ?_
  have hPc : va_P D vwCl (([(o, .inl (dA 2, 1, .inr (.inl og)))] : va_W) ++ (VW dA h ad x)) H := spP (wr := MW dA mm mad M) hP
  have hDc : va_D A (([(o, .inl (dA 2, 1, .inr (.inl og)))] : va_W) ++ (VW dA h ad x)) := spD (wr := MW dA mm mad M) hD
  refine jkI (wr := MW dA mm mad M) (rnW (As := [.ref h, .int (xs (i + 1)), .int (xs (i + 2)), .ref o]) (rest := []) hx hb hml hown hE hK (hN _ _ hS) hPc hDc (hW H.size) w1833 w1832 w1834 w1793 rfl rfl ⟨⟨by decide, by decide⟩, rfl⟩ ⟨(show fr1 + 1 ≤ 2048 by omega), (show 8 + (5 + 11) + lo1 ≤ 84000 by omega)⟩ rfl hl.1 rfl (Nat.le_of_ble_eq_true rfl) d_SeriesVaultLaw_law_458 ⟨(show cells + mc9 ≤ 601024 by omega), (show slots + ms9 ≤ 7293034 by omega)⟩) hP hD hS hA (fun k8 u8 H locs hp9 hP hD hS => ?_)
  obtain ⟨hp9, hf9⟩ := hp9
  replace hp9 : 0 = k8 := Eq.symm hp9
  subst hp9
  have hP : va_P D vwCl (MW dA mm mad M ++ (([(o, .inl (dA 2, 1, .inr (.inl (va_up og 0 v9))))] : va_W) ++ (VW dA h ad u8))) H := hP
  have hD : va_D A (MW dA mm mad M ++ (([(o, .inl (dA 2, 1, .inr (.inl (va_up og 0 v9))))] : va_W) ++ (VW dA h ad u8))) := hD
  refine lv_istore hx hb d_SeriesVaultLaw_law_461 hl (by decide) rfl (fun ls hl => ?_)
  have hl : lv_has ls 8 [(5, .int 0), (4, .int (nI i)), (3, .ref o), (2, .ref mm), (1, .ref h), (0, .ref b)] := hl
  refine lv_aload_n hx hb d_SeriesVaultLaw_law_463 rfl (lv_at hl 3 rfl) ?_
  refine lv_aload_n hx hb d_SeriesVaultLaw_law_464 rfl (lv_at hl 5 rfl) ?_
  refine lv_iload hx hb d_SeriesVaultLaw_law_465 (lv_at hl 1 rfl) ?_
  refine lv_iconst (v := 1) hx hb d_SeriesVaultLaw_law_467 (by decide) ?_
  refine lv_iadd hx hb d_SeriesVaultLaw_law_468 (tpi (y := nI (i + 1)) (nI_add (i) (1)) ?_)
  refine sldN hx hb hX hbl hbA hS (show i + 1 < L by omega) (show L ≤ 65536 by omega) d_SeriesVaultLaw_law_469 ?_
  refine lv_aload_n hx hb d_SeriesVaultLaw_law_470 rfl (lv_at hl 5 rfl) ?_
  refine lv_iload hx hb d_SeriesVaultLaw_law_471 (lv_at hl 1 rfl) ?_
  refine lv_iconst (v := 2) hx hb d_SeriesVaultLaw_law_473 (by decide) ?_
  refine lv_iadd hx hb d_SeriesVaultLaw_law_474 (tpi (y := nI (i + 2)) (nI_add (i) (2)) ?_)
  refine sldN hx hb hX hbl hbA hS (show i + 2 < L by omega) (show L ≤ 65536 by omega) d_SeriesVaultLaw_law_475 ?_
  have hP := pmP (show List.Perm (α := Nat × va_E) (MW dA mm mad M ++ (([(o, .inl (dA 2, 1, .inr (.inl (va_up og 0 v9))))] : va_W) ++ (VW dA h ad u8))) (([(o, .inl (dA 2, 1, .inr (.inl (va_up og 0 v9))))] : va_W) ++ (MW dA mm mad M ++ (VW dA h ad u8))) from List.perm_append_comm_assoc (MW dA mm mad M) (([(o, .inl (dA 2, 1, .inr (.inl (va_up og 0 v9))))] : va_W)) (VW dA h ad u8)) hP
  have hD := pmD (show List.Perm (α := Nat × va_E) (MW dA mm mad M ++ (([(o, .inl (dA 2, 1, .inr (.inl (va_up og 0 v9))))] : va_W) ++ (VW dA h ad u8))) (([(o, .inl (dA 2, 1, .inr (.inl (va_up og 0 v9))))] : va_W) ++ (MW dA mm mad M ++ (VW dA h ad u8))) from List.perm_append_comm_assoc (MW dA mm mad M) (([(o, .inl (dA 2, 1, .inr (.inl (va_up og 0 v9))))] : va_W)) (VW dA h ad u8)) hD
  have hP := pmP (show List.Perm (α := Nat × va_E) (([(o, .inl (dA 2, 1, .inr (.inl (va_up og 0 v9))))] : va_W) ++ (MW dA mm mad M ++ (VW dA h ad u8))) (([(o, .inl (dA 2, 1, .inr (.inl (va_up og 0 v9))))] : va_W) ++ (VW dA h ad u8 ++ (MW dA mm mad M))) from List.Perm.append_left (([(o, .inl (dA 2, 1, .inr (.inl (va_up og 0 v9))))] : va_W)) (List.perm_append_comm)) hP
  have hD := pmD (show List.Perm (α := Nat × va_E) (([(o, .inl (dA 2, 1, .inr (.inl (va_up og 0 v9))))] : va_W) ++ (MW dA mm mad M ++ (VW dA h ad u8))) (([(o, .inl (dA 2, 1, .inr (.inl (va_up og 0 v9))))] : va_W) ++ (VW dA h ad u8 ++ (MW dA mm mad M))) from List.Perm.append_left (([(o, .inl (dA 2, 1, .inr (.inl (va_up og 0 v9))))] : va_W)) (List.perm_append_comm)) hD
  have hPc : va_P D vwCl (MW dA mm mad M) H := spP (wr := ([(o, .inl (dA 2, 1, .inr (.inl (va_up og 0 v9))))] : va_W) ++ (VW dA h ad u8)) hP
  have hDc : va_D A (MW dA mm mad M) := spD (wr := ([(o, .inl (dA 2, 1, .inr (.inl (va_up og 0 v9))))] : va_W) ++ (VW dA h ad u8)) hD
  refine jkI (wr := ([(o, .inl (dA 2, 1, .inr (.inl (va_up og 0 v9))))] : va_W) ++ (VW dA h ad u8)) (rnV (As := [.int (xs (i + 1)), .int (xs (i + 2))]) (rest := []) hx hb hml hown hE hK (hN _ _ hS) hPc hDc (hM H.size) (q0 := 0) rfl rfl w1836 w1835 w1837 w1838 w328 rfl rfl ⟨⟨by decide, by decide⟩, rfl⟩ ⟨(show fr2 + 1 ≤ 2048 by omega), (show 8 + (3 + 11) + lo2 ≤ 84000 by omega)⟩ rfl hl.1 rfl (Nat.le_of_ble_eq_true rfl) d_SeriesVaultLaw_law_476 ⟨(show cells + mc9 + 0 ≤ 601024 by omega), (show slots + ms9 + 0 ≤ 7293034 by omega)⟩) hP hD hS hA (fun r7 u7 H locs hp9 hP hD hS => ?_)
  replace hp9 : b9 = r7 := Eq.symm hp9
  subst hp9
  have hP : va_P D vwCl (([(o, .inl (dA 2, 1, .inr (.inl (va_up og 0 v9))))] : va_W) ++ (VW dA h ad u8 ++ (MW dA mm mad M1))) H := hP
  have hD : va_D A (([(o, .inl (dA 2, 1, .inr (.inl (va_up og 0 v9))))] : va_W) ++ (VW dA h ad u8 ++ (MW dA mm mad M1))) := hD
  refine lv_istore hx hb d_SeriesVaultLaw_law_479 hl (by decide) rfl (fun ls hl => ?_)
  have hl : lv_has ls 8 [(6, .int b9), (5, .int 0), (4, .int (nI i)), (3, .ref o), (2, .ref mm), (1, .ref h), (0, .ref b)] := hl
  refine lv_aload_n hx hb d_SeriesVaultLaw_law_481 rfl (lv_at hl 4 rfl) ?_
  have hPc : va_P D vwCl (MW dA mm mad M1) H := spP (wr := ([(o, .inl (dA 2, 1, .inr (.inl (va_up og 0 v9))))] : va_W) ++ (VW dA h ad u8)) hP
  have hDc : va_D A (MW dA mm mad M1) := spD (wr := ([(o, .inl (dA 2, 1, .inr (.inl (va_up og 0 v9))))] : va_W) ++ (VW dA h ad u8)) hD
  refine jkI (wr := ([(o, .inl (dA 2, 1, .inr (.inl (va_up og 0 v9))))] : va_W) ++ (VW dA h ad u8)) (rnV (As := []) (rest := []) hx hb hml hown hE hK (hN _ _ hS) hPc hDc (k_thrown l D dA H.size mm mad M1) (q0 := 0) rfl rfl w1801 w1800 w1802 w1803 w328 rfl rfl ⟨⟨by decide, by decide⟩, rfl⟩ ⟨(show 1 + 1 ≤ 2048 by omega), (show 8 + (1 + 11) + 0 ≤ 84000 by omega)⟩ rfl hl.1 rfl (Nat.le_of_ble_eq_true rfl) d_SeriesVaultLaw_law_482 ⟨(show cells + mc9 + 0 ≤ 601024 by omega), (show slots + ms9 + 0 ≤ 7293034 by omega)⟩) hP hD hS hA (fun r7 u7 H locs hp9 hP hD hS => ?_)
  replace hp9 : 0 = r7 := Eq.symm (hp9.trans hcod)
  subst hp9
  have hP : va_P D vwCl (([(o, .inl (dA 2, 1, .inr (.inl (va_up og 0 v9))))] : va_W) ++ (VW dA h ad u8 ++ (MW dA mm mad M1))) H := hP
  have hD : va_D A (([(o, .inl (dA 2, 1, .inr (.inl (va_up og 0 v9))))] : va_W) ++ (VW dA h ad u8 ++ (MW dA mm mad M1))) := hD
  refine lv_iload hx hb d_SeriesVaultLaw_law_485 (lv_at hl 1 rfl) ?_
  refine lv_icmp_eq hx hb d_SeriesVaultLaw_law_487 (tgt := 492) rfl (fun _ => ?_) (fun h9 => absurd rfl h9)
  refine lv_iload hx hb d_SeriesVaultLaw_law_492 (lv_at hl 1 rfl) ?_
  refine lv_if_ne hx hb d_SeriesVaultLaw_law_494 (tgt := 509) rfl (fun h9 => absurd (by decide) h9) (fun _ => ?_)
  refine lv_aload_n hx hb d_SeriesVaultLaw_law_497 rfl (lv_at hl 3 rfl) ?_
  refine lv_iconst (v := 0) hx hb d_SeriesVaultLaw_law_498 (by decide) ?_
  refine nlld (f := (va_up og 0 v9)) (n := 1) hx hb hK hP (0) 2 rfl rfl (0) (by decide) (by decide) d_SeriesVaultLaw_law_499 ?_
  refine tpl (y := v9) (va_up_self _ _ _) ?_
  refine lv_iload hx hb d_SeriesVaultLaw_law_500 (lv_at hl 0 rfl) ?_
  refine lv_i2l hx hb d_SeriesVaultLaw_law_502 rfl ?_
  refine W.lcmp hx hb d_SeriesVaultLaw_law_503 ?_
  refine lv_if_eq hx hb d_SeriesVaultLaw_law_504 (tgt := 509) rfl (fun _ => ?_) (fun h9 => absurd ((lg_cmp_eq _ _).mpr hv) h9)
  refine lv_goto hx hb d_SeriesVaultLaw_law_509 (tgt := 1770) rfl ?_
  refine lv_iinc (k := 2) (v := nI (i + 6)) hx hb d_SeriesVaultLaw_law_1770 hl rfl (iincN (i) 6 6 (by decide)) (by decide) rfl (fun ls hl => ?_)
  have hl : lv_has ls 8 [(4, .int (nI (i + 6))), (6, .int b9), (5, .int 0), (3, .ref o), (2, .ref mm), (1, .ref h), (0, .ref b)] := hl
  refine lv_goto hx hb d_SeriesVaultLaw_law_1773 (tgt := 23) rfl ?_
  have hP := pmP (show List.Perm (α := Nat × va_E) (([(o, .inl (dA 2, 1, .inr (.inl (va_up og 0 v9))))] : va_W) ++ (VW dA h ad u8 ++ (MW dA mm mad M1))) (MW dA mm mad M1 ++ (([(o, .inl (dA 2, 1, .inr (.inl (va_up og 0 v9))))] : va_W) ++ (VW dA h ad u8))) from (List.Perm.append_left (([(o, .inl (dA 2, 1, .inr (.inl (va_up og 0 v9))))] : va_W)) (List.perm_append_comm)).trans (List.perm_append_comm_assoc (([(o, .inl (dA 2, 1, .inr (.inl (va_up og 0 v9))))] : va_W)) (MW dA mm mad M1) (VW dA h ad u8))) hP
  have hD := pmD (show List.Perm (α := Nat × va_E) (([(o, .inl (dA 2, 1, .inr (.inl (va_up og 0 v9))))] : va_W) ++ (VW dA h ad u8 ++ (MW dA mm mad M1))) (MW dA mm mad M1 ++ (([(o, .inl (dA 2, 1, .inr (.inl (va_up og 0 v9))))] : va_W) ++ (VW dA h ad u8))) from (List.Perm.append_left (([(o, .inl (dA 2, 1, .inr (.inl (va_up og 0 v9))))] : va_W)) (List.perm_append_comm)).trans (List.perm_append_comm_assoc (([(o, .inl (dA 2, 1, .inr (.inl (va_up og 0 v9))))] : va_W)) (MW dA mm mad M1) (VW dA h ad u8))) hD
  have hP : va_P D vwCl (MW dA mm mad M1 ++ (([(o, .inl (dA 2, 1, .inr (.inl (va_up og 0 v9))))] : va_W) ++ (VW dA h ad u8))) H := hP
  have hD : va_D A (MW dA mm mad M1 ++ (([(o, .inl (dA 2, 1, .inr (.inl (va_up og 0 v9))))] : va_W) ++ (VW dA h ad u8))) := hD
  have hl := lv_sub (l' := [(4, .int (nI (i + 6))), (3, .ref o), (2, .ref mm), (1, .ref h), (0, .ref b)]) hl [0, 3, 4, 5, 6] rfl
  exact cont u8 H locs ls hf9 hP hD hS hl
set_option maxHeartbeats 4000000 in
set_option maxRecDepth 100000 in
theorem l9_5_x {p : Program} {e : Env} {s : State} {m : MethodId} {below : List Frame} {meth : Method} {c : Code} (l : Launch) {b L : Nat} {xs : Nat → Int32} {D : va_G} {dA : Nat → ClassId} {e0 : Nat} {A : Nat → Prop} {H : Heap} {locs : List Loc} {ls : Array Slot} (hC : lS p l s m meth c b L xs D dA e0 A) {h : Nat} {ad : Nat → Nat} {x : VS} {mm : Nat} {mad : Nat → Nat} {M M1 : MS} {o : Nat} {og : Nat → Int64} {i fr1 lo1 fr2 lo2 mc9 ms9 cells slots : Nat} {F9 : VS → Prop} {b9 : Int32} {k9 : Nat} (hi : i + 6 ≤ L) (hL : L ≤ 3072) (hfr : fr1 ≤ 2000 ∧ lo1 ≤ 80000 ∧ fr2 ≤ 2000 ∧ lo2 ≤ 80000) (hrm : cells + mc9 ≤ 601024 ∧ slots + ms9 ≤ 7293034) (hcod : M1.cod = nI k9) (hk9 : ¬ nI k9 = 0) (hW : ∀ sz : Nat, Met l ⟨"SeriesVaultLaw", "letter", "(LSeriesVault;II[J)I"⟩ [Cond.codeWith ⟨"SeriesVaultLaw", "letter", "(LSeriesVault;II[J)I"⟩ method_8_code 5 (some FieldType.int) [(0, 10, 13, 29), (0, 10, 17, 35)]] { frames := fr1, cells := mc9, slots := ms9, locals := lo1 } (pC D dA [.ref h, .int (xs (i + 1)), .int (xs (i + 2)), .ref o] (([(o, .inl (dA 2, 1, .inr (.inl og)))] : va_W) ++ (VW dA h ad x)) sz) (va_Qi (fun (r9 : Int32) (u9 : VS) => r9 = nI k9 ∧ F9 u9) (fun (u9 : VS) t9 => bW D (va_A (([(o, .inl (dA 2, 1, .inr (.inl og)))] : va_W) ++ (VW dA h ad x)) sz) (([(o, .inl (dA 2, 1, .inr (.inl (og))))] : va_W) ++ (VW dA h ad u9)) t9) (va_A (([(o, .inl (dA 2, 1, .inr (.inl og)))] : va_W) ++ (VW dA h ad x)) sz)) mc9 ms9 (va_A (([(o, .inl (dA 2, 1, .inr (.inl og)))] : va_W) ++ (VW dA h ad x)) sz)) (hM : ∀ sz : Nat, Met l ⟨"SeriesVaultModel", "letter", "(II)I"⟩ [Cond.code ⟨"SeriesVaultModel", "letter", "(II)I"⟩ prog_14_method_31_code 3 (some FieldType.int)] { frames := fr2, cells := 0, slots := 0, locals := lo2 } (pC D dA [.ref mm, .int (xs (i + 1)), .int (xs (i + 2))] (MW dA mm mad M) sz) (va_Qi (fun (r9 : Int32) (u9 : Unit) => r9 = b9) (fun (u9 : Unit) t9 => bW D (va_A (MW dA mm mad M) sz) (MW dA mm mad M1) t9) (va_A (MW dA mm mad M) sz)) 0 0 (va_A (MW dA mm mad M) sz)) (hP : va_P D vwCl (MW dA mm mad M ++ (([(o, .inl (dA 2, 1, .inr (.inl og)))] : va_W) ++ (VW dA h ad x))) H) (hD : va_D A (MW dA mm mad M ++ (([(o, .inl (dA 2, 1, .inr (.inl og)))] : va_W) ++ (VW dA h ad x)))) (hS : va_S A s.heap H locs) (hl : lv_has ls 8 [(4, .int (nI i)), (3, .ref o), (2, .ref mm), (1, .ref h), (0, .ref b)]) (cont : ∀ (u : VS) (H1 : Heap) (locs1 : List Loc) (ls1 : Array Slot), F9 u → va_P D vwCl (MW dA mm mad M1 ++ (([(o, .inl (dA 2, 1, .inr (.inl og)))] : va_W) ++ (VW dA h ad u))) H1 → va_D A (MW dA mm mad M1 ++ (([(o, .inl (dA 2, 1, .inr (.inl og)))] : va_W) ++ (VW dA h ad u))) → va_S A s.heap H1 locs1 → lv_has ls1 8 [(4, .int (nI (i + 6))), (3, .ref o), (2, .ref mm), (1, .ref h), (0, .ref b)] → W p l e room_1 s m #[Value.ref b] below meth c H1 locs1 (cells + mc9 + 0 + 0) (slots + ms9 + 0 + 0) (lw_Z below #[Value.ref b] s) (F0 m 23 ls1 [])) : W p l e room_1 s m #[Value.ref b] below meth c H locs cells slots (lw_Z below #[Value.ref b] s) (F0 m 444 ls []) := by
  have hC0 := hC
  obtain ⟨hx, hb, hr, hml, hown, hlk, hE, hK, hA, hN, hZ, hT, hX, hbl, hbA, hnew, htr⟩ := hC
  refine lv_aload_n hx hb d_SeriesVaultLaw_law_444 rfl (lv_at hl 3 rfl) ?_
  refine lv_aload_n hx hb d_SeriesVaultLaw_law_445 rfl (lv_at hl 4 rfl) ?_
  refine lv_iload hx hb d_SeriesVaultLaw_law_446 (lv_at hl 0 rfl) ?_
  refine lv_iconst (v := 1) hx hb d_SeriesVaultLaw_law_448 (by decide) ?_
  refine lv_iadd hx hb d_SeriesVaultLaw_law_449 (tpi (y := nI (i + 1)) (nI_add (i) (1)) ?_)
  refine sldN hx hb hX hbl hbA hS (show i + 1 < L by omega) (show L ≤ 65536 by omega) d_SeriesVaultLaw_law_450 ?_
  refine lv_aload_n hx hb d_SeriesVaultLaw_law_451 rfl (lv_at hl 4 rfl) ?_
  refine lv_iload hx hb d_SeriesVaultLaw_law_452 (lv_at hl 0 rfl) ?_
  refine lv_iconst (v := 2) hx hb d_SeriesVaultLaw_law_454 (by decide) ?_
  refine lv_iadd hx hb d_SeriesVaultLaw_law_455 (tpi (y := nI (i + 2)) (nI_add (i) (2)) ?_)
  refine sldN hx hb hX hbl hbA hS (show i + 2 < L by omega) (show L ≤ 65536 by omega) d_SeriesVaultLaw_law_456 ?_
  refine lv_aload_n hx hb d_SeriesVaultLaw_law_457 rfl (lv_at hl 1 rfl) ?_
  have hPc : va_P D vwCl (([(o, .inl (dA 2, 1, .inr (.inl og)))] : va_W) ++ (VW dA h ad x)) H := spP (wr := MW dA mm mad M) hP
  have hDc : va_D A (([(o, .inl (dA 2, 1, .inr (.inl og)))] : va_W) ++ (VW dA h ad x)) := spD (wr := MW dA mm mad M) hD
  refine jkI (wr := MW dA mm mad M) (rnW (As := [.ref h, .int (xs (i + 1)), .int (xs (i + 2)), .ref o]) (rest := []) hx hb hml hown hE hK (hN _ _ hS) hPc hDc (hW H.size) w1833 w1832 w1834 w1793 rfl rfl ⟨⟨by decide, by decide⟩, rfl⟩ ⟨(show fr1 + 1 ≤ 2048 by omega), (show 8 + (5 + 11) + lo1 ≤ 84000 by omega)⟩ rfl hl.1 rfl (Nat.le_of_ble_eq_true rfl) d_SeriesVaultLaw_law_458 ⟨(show cells + mc9 ≤ 601024 by omega), (show slots + ms9 ≤ 7293034 by omega)⟩) hP hD hS hA (fun k8 u8 H locs hp9 hP hD hS => ?_)
  obtain ⟨hp9, hf9⟩ := hp9
  replace hp9 : nI k9 = k8 := Eq.symm hp9
  subst hp9
  have hP : va_P D vwCl (MW dA mm mad M ++ (([(o, .inl (dA 2, 1, .inr (.inl og)))] : va_W) ++ (VW dA h ad u8))) H := hP
  have hD : va_D A (MW dA mm mad M ++ (([(o, .inl (dA 2, 1, .inr (.inl og)))] : va_W) ++ (VW dA h ad u8))) := hD
  refine lv_istore hx hb d_SeriesVaultLaw_law_461 hl (by decide) rfl (fun ls hl => ?_)
  have hl : lv_has ls 8 [(5, .int (nI k9)), (4, .int (nI i)), (3, .ref o), (2, .ref mm), (1, .ref h), (0, .ref b)] := hl
  refine lv_aload_n hx hb d_SeriesVaultLaw_law_463 rfl (lv_at hl 3 rfl) ?_
  refine lv_aload_n hx hb d_SeriesVaultLaw_law_464 rfl (lv_at hl 5 rfl) ?_
  refine lv_iload hx hb d_SeriesVaultLaw_law_465 (lv_at hl 1 rfl) ?_
  refine lv_iconst (v := 1) hx hb d_SeriesVaultLaw_law_467 (by decide) ?_
  refine lv_iadd hx hb d_SeriesVaultLaw_law_468 (tpi (y := nI (i + 1)) (nI_add (i) (1)) ?_)
  refine sldN hx hb hX hbl hbA hS (show i + 1 < L by omega) (show L ≤ 65536 by omega) d_SeriesVaultLaw_law_469 ?_
  refine lv_aload_n hx hb d_SeriesVaultLaw_law_470 rfl (lv_at hl 5 rfl) ?_
  refine lv_iload hx hb d_SeriesVaultLaw_law_471 (lv_at hl 1 rfl) ?_
  refine lv_iconst (v := 2) hx hb d_SeriesVaultLaw_law_473 (by decide) ?_
  refine lv_iadd hx hb d_SeriesVaultLaw_law_474 (tpi (y := nI (i + 2)) (nI_add (i) (2)) ?_)
  refine sldN hx hb hX hbl hbA hS (show i + 2 < L by omega) (show L ≤ 65536 by omega) d_SeriesVaultLaw_law_475 ?_
  have hP := pmP (show List.Perm (α := Nat × va_E) (MW dA mm mad M ++ (([(o, .inl (dA 2, 1, .inr (.inl og)))] : va_W) ++ (VW dA h ad u8))) (([(o, .inl (dA 2, 1, .inr (.inl og)))] : va_W) ++ (MW dA mm mad M ++ (VW dA h ad u8))) from List.perm_append_comm_assoc (MW dA mm mad M) (([(o, .inl (dA 2, 1, .inr (.inl og)))] : va_W)) (VW dA h ad u8)) hP
  have hD := pmD (show List.Perm (α := Nat × va_E) (MW dA mm mad M ++ (([(o, .inl (dA 2, 1, .inr (.inl og)))] : va_W) ++ (VW dA h ad u8))) (([(o, .inl (dA 2, 1, .inr (.inl og)))] : va_W) ++ (MW dA mm mad M ++ (VW dA h ad u8))) from List.perm_append_comm_assoc (MW dA mm mad M) (([(o, .inl (dA 2, 1, .inr (.inl og)))] : va_W)) (VW dA h ad u8)) hD
  have hP := pmP (show List.Perm (α := Nat × va_E) (([(o, .inl (dA 2, 1, .inr (.inl og)))] : va_W) ++ (MW dA mm mad M ++ (VW dA h ad u8))) (([(o, .inl (dA 2, 1, .inr (.inl og)))] : va_W) ++ (VW dA h ad u8 ++ (MW dA mm mad M))) from List.Perm.append_left (([(o, .inl (dA 2, 1, .inr (.inl og)))] : va_W)) (List.perm_append_comm)) hP
  have hD := pmD (show List.Perm (α := Nat × va_E) (([(o, .inl (dA 2, 1, .inr (.inl og)))] : va_W) ++ (MW dA mm mad M ++ (VW dA h ad u8))) (([(o, .inl (dA 2, 1, .inr (.inl og)))] : va_W) ++ (VW dA h ad u8 ++ (MW dA mm mad M))) from List.Perm.append_left (([(o, .inl (dA 2, 1, .inr (.inl og)))] : va_W)) (List.perm_append_comm)) hD
  have hPc : va_P D vwCl (MW dA mm mad M) H := spP (wr := ([(o, .inl (dA 2, 1, .inr (.inl og)))] : va_W) ++ (VW dA h ad u8)) hP
  have hDc : va_D A (MW dA mm mad M) := spD (wr := ([(o, .inl (dA 2, 1, .inr (.inl og)))] : va_W) ++ (VW dA h ad u8)) hD
  refine jkI (wr := ([(o, .inl (dA 2, 1, .inr (.inl og)))] : va_W) ++ (VW dA h ad u8)) (rnV (As := [.int (xs (i + 1)), .int (xs (i + 2))]) (rest := []) hx hb hml hown hE hK (hN _ _ hS) hPc hDc (hM H.size) (q0 := 0) rfl rfl w1836 w1835 w1837 w1838 w328 rfl rfl ⟨⟨by decide, by decide⟩, rfl⟩ ⟨(show fr2 + 1 ≤ 2048 by omega), (show 8 + (3 + 11) + lo2 ≤ 84000 by omega)⟩ rfl hl.1 rfl (Nat.le_of_ble_eq_true rfl) d_SeriesVaultLaw_law_476 ⟨(show cells + mc9 + 0 ≤ 601024 by omega), (show slots + ms9 + 0 ≤ 7293034 by omega)⟩) hP hD hS hA (fun r7 u7 H locs hp9 hP hD hS => ?_)
  replace hp9 : b9 = r7 := Eq.symm hp9
  subst hp9
  have hP : va_P D vwCl (([(o, .inl (dA 2, 1, .inr (.inl og)))] : va_W) ++ (VW dA h ad u8 ++ (MW dA mm mad M1))) H := hP
  have hD : va_D A (([(o, .inl (dA 2, 1, .inr (.inl og)))] : va_W) ++ (VW dA h ad u8 ++ (MW dA mm mad M1))) := hD
  refine lv_istore hx hb d_SeriesVaultLaw_law_479 hl (by decide) rfl (fun ls hl => ?_)
  have hl : lv_has ls 8 [(6, .int b9), (5, .int (nI k9)), (4, .int (nI i)), (3, .ref o), (2, .ref mm), (1, .ref h), (0, .ref b)] := hl
  refine lv_aload_n hx hb d_SeriesVaultLaw_law_481 rfl (lv_at hl 4 rfl) ?_
  have hPc : va_P D vwCl (MW dA mm mad M1) H := spP (wr := ([(o, .inl (dA 2, 1, .inr (.inl og)))] : va_W) ++ (VW dA h ad u8)) hP
  have hDc : va_D A (MW dA mm mad M1) := spD (wr := ([(o, .inl (dA 2, 1, .inr (.inl og)))] : va_W) ++ (VW dA h ad u8)) hD
  refine jkI (wr := ([(o, .inl (dA 2, 1, .inr (.inl og)))] : va_W) ++ (VW dA h ad u8)) (rnV (As := []) (rest := []) hx hb hml hown hE hK (hN _ _ hS) hPc hDc (k_thrown l D dA H.size mm mad M1) (q0 := 0) rfl rfl w1801 w1800 w1802 w1803 w328 rfl rfl ⟨⟨by decide, by decide⟩, rfl⟩ ⟨(show 1 + 1 ≤ 2048 by omega), (show 8 + (1 + 11) + 0 ≤ 84000 by omega)⟩ rfl hl.1 rfl (Nat.le_of_ble_eq_true rfl) d_SeriesVaultLaw_law_482 ⟨(show cells + mc9 + 0 ≤ 601024 by omega), (show slots + ms9 + 0 ≤ 7293034 by omega)⟩) hP hD hS hA (fun r7 u7 H locs hp9 hP hD hS => ?_)
  replace hp9 : nI k9 = r7 := Eq.symm (hp9.trans hcod)
  subst hp9
  have hP : va_P D vwCl (([(o, .inl (dA 2, 1, .inr (.inl og)))] : va_W) ++ (VW dA h ad u8 ++ (MW dA mm mad M1))) H := hP
  have hD : va_D A (([(o, .inl (dA 2, 1, .inr (.inl og)))] : va_W) ++ (VW dA h ad u8 ++ (MW dA mm mad M1))) := hD
  refine lv_iload hx hb d_SeriesVaultLaw_law_485 (lv_at hl 1 rfl) ?_
  refine lv_icmp_eq hx hb d_SeriesVaultLaw_law_487 (tgt := 492) rfl (fun _ => ?_) (fun h9 => absurd rfl h9)
  refine lv_iload hx hb d_SeriesVaultLaw_law_492 (lv_at hl 1 rfl) ?_
  refine lv_if_ne hx hb d_SeriesVaultLaw_law_494 (tgt := 509) rfl (fun _ => ?_) (fun h9 => absurd h9 hk9)
  refine lv_goto hx hb d_SeriesVaultLaw_law_509 (tgt := 1770) rfl ?_
  refine lv_iinc (k := 2) (v := nI (i + 6)) hx hb d_SeriesVaultLaw_law_1770 hl rfl (iincN (i) 6 6 (by decide)) (by decide) rfl (fun ls hl => ?_)
  have hl : lv_has ls 8 [(4, .int (nI (i + 6))), (6, .int b9), (5, .int (nI k9)), (3, .ref o), (2, .ref mm), (1, .ref h), (0, .ref b)] := hl
  refine lv_goto hx hb d_SeriesVaultLaw_law_1773 (tgt := 23) rfl ?_
  have hP := pmP (show List.Perm (α := Nat × va_E) (([(o, .inl (dA 2, 1, .inr (.inl og)))] : va_W) ++ (VW dA h ad u8 ++ (MW dA mm mad M1))) (MW dA mm mad M1 ++ (([(o, .inl (dA 2, 1, .inr (.inl og)))] : va_W) ++ (VW dA h ad u8))) from (List.Perm.append_left (([(o, .inl (dA 2, 1, .inr (.inl og)))] : va_W)) (List.perm_append_comm)).trans (List.perm_append_comm_assoc (([(o, .inl (dA 2, 1, .inr (.inl og)))] : va_W)) (MW dA mm mad M1) (VW dA h ad u8))) hP
  have hD := pmD (show List.Perm (α := Nat × va_E) (([(o, .inl (dA 2, 1, .inr (.inl og)))] : va_W) ++ (VW dA h ad u8 ++ (MW dA mm mad M1))) (MW dA mm mad M1 ++ (([(o, .inl (dA 2, 1, .inr (.inl og)))] : va_W) ++ (VW dA h ad u8))) from (List.Perm.append_left (([(o, .inl (dA 2, 1, .inr (.inl og)))] : va_W)) (List.perm_append_comm)).trans (List.perm_append_comm_assoc (([(o, .inl (dA 2, 1, .inr (.inl og)))] : va_W)) (MW dA mm mad M1) (VW dA h ad u8))) hD
  have hP : va_P D vwCl (MW dA mm mad M1 ++ (([(o, .inl (dA 2, 1, .inr (.inl og)))] : va_W) ++ (VW dA h ad u8))) H := hP
  have hD : va_D A (MW dA mm mad M1 ++ (([(o, .inl (dA 2, 1, .inr (.inl og)))] : va_W) ++ (VW dA h ad u8))) := hD
  have hl := lv_sub (l' := [(4, .int (nI (i + 6))), (3, .ref o), (2, .ref mm), (1, .ref h), (0, .ref b)]) hl [0, 3, 4, 5, 6] rfl
  exact cont u8 H locs ls hf9 hP hD hS hl
theorem d_SeriesVaultLaw_law_512 : decode code 512 = .ok (.aload_n 1, 1) := by decide +kernel
theorem d_SeriesVaultLaw_law_513 : decode code 513 = .ok (.aload_n 0, 1) := by decide +kernel
theorem d_SeriesVaultLaw_law_514 : decode code 514 = .ok (.iload 4, 2) := by decide +kernel
theorem d_SeriesVaultLaw_law_516 : decode code 516 = .ok (.iconst 1, 1) := by decide +kernel
theorem d_SeriesVaultLaw_law_517 : decode code 517 = .ok (.iadd, 1) := by decide +kernel
theorem d_SeriesVaultLaw_law_518 : decode code 518 = .ok (.iaload, 1) := by decide +kernel
theorem d_SeriesVaultLaw_law_519 : decode code 519 = .ok (.aload_n 0, 1) := by decide +kernel
theorem d_SeriesVaultLaw_law_520 : decode code 520 = .ok (.iload 4, 2) := by decide +kernel
theorem d_SeriesVaultLaw_law_522 : decode code 522 = .ok (.iconst 2, 1) := by decide +kernel
theorem d_SeriesVaultLaw_law_523 : decode code 523 = .ok (.iadd, 1) := by decide +kernel
theorem d_SeriesVaultLaw_law_524 : decode code 524 = .ok (.iaload, 1) := by decide +kernel
theorem d_SeriesVaultLaw_law_525 : decode code 525 = .ok (.i2l, 1) := by decide +kernel
theorem d_SeriesVaultLaw_law_526 : decode code 526 = .ok (.bipush 32, 2) := by decide +kernel
theorem d_SeriesVaultLaw_law_528 : decode code 528 = .ok (.lshl, 1) := by decide +kernel
theorem d_SeriesVaultLaw_law_529 : decode code 529 = .ok (.aload_n 0, 1) := by decide +kernel
theorem d_SeriesVaultLaw_law_530 : decode code 530 = .ok (.iload 4, 2) := by decide +kernel
theorem d_SeriesVaultLaw_law_532 : decode code 532 = .ok (.iconst 3, 1) := by decide +kernel
theorem d_SeriesVaultLaw_law_533 : decode code 533 = .ok (.iadd, 1) := by decide +kernel
theorem d_SeriesVaultLaw_law_534 : decode code 534 = .ok (.iaload, 1) := by decide +kernel
theorem d_SeriesVaultLaw_law_535 : decode code 535 = .ok (.i2l, 1) := by decide +kernel
theorem d_SeriesVaultLaw_law_536 : decode code 536 = .ok (.ldc2_w 133, 3) := by decide +kernel
theorem d_SeriesVaultLaw_law_539 : decode code 539 = .ok (.land, 1) := by decide +kernel
theorem d_SeriesVaultLaw_law_540 : decode code 540 = .ok (.lor, 1) := by decide +kernel
theorem d_SeriesVaultLaw_law_541 : decode code 541 = .ok (.aload_n 0, 1) := by decide +kernel
theorem d_SeriesVaultLaw_law_542 : decode code 542 = .ok (.iload 4, 2) := by decide +kernel
theorem d_SeriesVaultLaw_law_544 : decode code 544 = .ok (.iconst 4, 1) := by decide +kernel
theorem d_SeriesVaultLaw_law_545 : decode code 545 = .ok (.iadd, 1) := by decide +kernel
theorem d_SeriesVaultLaw_law_546 : decode code 546 = .ok (.iaload, 1) := by decide +kernel
theorem d_SeriesVaultLaw_law_547 : decode code 547 = .ok (.i2l, 1) := by decide +kernel
theorem d_SeriesVaultLaw_law_548 : decode code 548 = .ok (.bipush 32, 2) := by decide +kernel
theorem d_SeriesVaultLaw_law_550 : decode code 550 = .ok (.lshl, 1) := by decide +kernel
theorem d_SeriesVaultLaw_law_551 : decode code 551 = .ok (.aload_n 0, 1) := by decide +kernel
theorem d_SeriesVaultLaw_law_552 : decode code 552 = .ok (.iload 4, 2) := by decide +kernel
theorem d_SeriesVaultLaw_law_554 : decode code 554 = .ok (.iconst 5, 1) := by decide +kernel
theorem d_SeriesVaultLaw_law_555 : decode code 555 = .ok (.iadd, 1) := by decide +kernel
theorem d_SeriesVaultLaw_law_556 : decode code 556 = .ok (.iaload, 1) := by decide +kernel
theorem d_SeriesVaultLaw_law_557 : decode code 557 = .ok (.i2l, 1) := by decide +kernel
theorem d_SeriesVaultLaw_law_558 : decode code 558 = .ok (.ldc2_w 133, 3) := by decide +kernel
theorem d_SeriesVaultLaw_law_561 : decode code 561 = .ok (.land, 1) := by decide +kernel
theorem d_SeriesVaultLaw_law_562 : decode code 562 = .ok (.lor, 1) := by decide +kernel
theorem d_SeriesVaultLaw_law_563 : decode code 563 = .ok (.aload_n 3, 1) := by decide +kernel
theorem d_SeriesVaultLaw_law_564 : decode code 564 = .ok (.invokestatic 135, 3) := by decide +kernel
theorem d_SeriesVaultLaw_law_567 : decode code 567 = .ok (.istore 5, 2) := by decide +kernel
theorem d_SeriesVaultLaw_law_569 : decode code 569 = .ok (.aload_n 2, 1) := by decide +kernel
theorem d_SeriesVaultLaw_law_570 : decode code 570 = .ok (.aload_n 0, 1) := by decide +kernel
theorem d_SeriesVaultLaw_law_571 : decode code 571 = .ok (.iload 4, 2) := by decide +kernel
theorem d_SeriesVaultLaw_law_573 : decode code 573 = .ok (.iconst 1, 1) := by decide +kernel
theorem d_SeriesVaultLaw_law_574 : decode code 574 = .ok (.iadd, 1) := by decide +kernel
theorem d_SeriesVaultLaw_law_575 : decode code 575 = .ok (.iaload, 1) := by decide +kernel
theorem d_SeriesVaultLaw_law_576 : decode code 576 = .ok (.aload_n 0, 1) := by decide +kernel
theorem d_SeriesVaultLaw_law_577 : decode code 577 = .ok (.iload 4, 2) := by decide +kernel
theorem d_SeriesVaultLaw_law_579 : decode code 579 = .ok (.iconst 2, 1) := by decide +kernel
theorem d_SeriesVaultLaw_law_580 : decode code 580 = .ok (.iadd, 1) := by decide +kernel
theorem d_SeriesVaultLaw_law_581 : decode code 581 = .ok (.iaload, 1) := by decide +kernel
theorem d_SeriesVaultLaw_law_582 : decode code 582 = .ok (.i2l, 1) := by decide +kernel
theorem d_SeriesVaultLaw_law_583 : decode code 583 = .ok (.bipush 32, 2) := by decide +kernel
theorem d_SeriesVaultLaw_law_585 : decode code 585 = .ok (.lshl, 1) := by decide +kernel
theorem d_SeriesVaultLaw_law_586 : decode code 586 = .ok (.aload_n 0, 1) := by decide +kernel
theorem d_SeriesVaultLaw_law_587 : decode code 587 = .ok (.iload 4, 2) := by decide +kernel
theorem d_SeriesVaultLaw_law_589 : decode code 589 = .ok (.iconst 3, 1) := by decide +kernel
theorem d_SeriesVaultLaw_law_590 : decode code 590 = .ok (.iadd, 1) := by decide +kernel
theorem d_SeriesVaultLaw_law_591 : decode code 591 = .ok (.iaload, 1) := by decide +kernel
theorem d_SeriesVaultLaw_law_592 : decode code 592 = .ok (.i2l, 1) := by decide +kernel
theorem d_SeriesVaultLaw_law_593 : decode code 593 = .ok (.ldc2_w 133, 3) := by decide +kernel
theorem d_SeriesVaultLaw_law_596 : decode code 596 = .ok (.land, 1) := by decide +kernel
theorem d_SeriesVaultLaw_law_597 : decode code 597 = .ok (.lor, 1) := by decide +kernel
theorem d_SeriesVaultLaw_law_598 : decode code 598 = .ok (.aload_n 0, 1) := by decide +kernel
theorem d_SeriesVaultLaw_law_599 : decode code 599 = .ok (.iload 4, 2) := by decide +kernel
theorem d_SeriesVaultLaw_law_601 : decode code 601 = .ok (.iconst 4, 1) := by decide +kernel
theorem d_SeriesVaultLaw_law_602 : decode code 602 = .ok (.iadd, 1) := by decide +kernel
theorem d_SeriesVaultLaw_law_603 : decode code 603 = .ok (.iaload, 1) := by decide +kernel
theorem d_SeriesVaultLaw_law_604 : decode code 604 = .ok (.i2l, 1) := by decide +kernel
theorem d_SeriesVaultLaw_law_605 : decode code 605 = .ok (.bipush 32, 2) := by decide +kernel
theorem d_SeriesVaultLaw_law_607 : decode code 607 = .ok (.lshl, 1) := by decide +kernel
theorem d_SeriesVaultLaw_law_608 : decode code 608 = .ok (.aload_n 0, 1) := by decide +kernel
theorem d_SeriesVaultLaw_law_609 : decode code 609 = .ok (.iload 4, 2) := by decide +kernel
theorem d_SeriesVaultLaw_law_611 : decode code 611 = .ok (.iconst 5, 1) := by decide +kernel
theorem d_SeriesVaultLaw_law_612 : decode code 612 = .ok (.iadd, 1) := by decide +kernel
theorem d_SeriesVaultLaw_law_613 : decode code 613 = .ok (.iaload, 1) := by decide +kernel
theorem d_SeriesVaultLaw_law_614 : decode code 614 = .ok (.i2l, 1) := by decide +kernel
theorem d_SeriesVaultLaw_law_615 : decode code 615 = .ok (.ldc2_w 133, 3) := by decide +kernel
theorem d_SeriesVaultLaw_law_618 : decode code 618 = .ok (.land, 1) := by decide +kernel
theorem d_SeriesVaultLaw_law_619 : decode code 619 = .ok (.lor, 1) := by decide +kernel
theorem d_SeriesVaultLaw_law_620 : decode code 620 = .ok (.invokevirtual 138, 3) := by decide +kernel
theorem d_SeriesVaultLaw_law_623 : decode code 623 = .ok (.istore 6, 2) := by decide +kernel
theorem d_SeriesVaultLaw_law_625 : decode code 625 = .ok (.aload_n 2, 1) := by decide +kernel
theorem d_SeriesVaultLaw_law_626 : decode code 626 = .ok (.invokevirtual 110, 3) := by decide +kernel
theorem d_SeriesVaultLaw_law_629 : decode code 629 = .ok (.iload 5, 2) := by decide +kernel
theorem d_SeriesVaultLaw_law_631 : decode code 631 = .ok (.if_icmp .eq 5, 3) := by decide +kernel
theorem d_SeriesVaultLaw_law_636 : decode code 636 = .ok (.iload 5, 2) := by decide +kernel
theorem d_SeriesVaultLaw_law_638 : decode code 638 = .ok (.ifCond .ne 15, 3) := by decide +kernel
theorem d_SeriesVaultLaw_law_641 : decode code 641 = .ok (.aload_n 3, 1) := by decide +kernel
theorem d_SeriesVaultLaw_law_642 : decode code 642 = .ok (.iconst 0, 1) := by decide +kernel
theorem d_SeriesVaultLaw_law_643 : decode code 643 = .ok (.laload, 1) := by decide +kernel
theorem d_SeriesVaultLaw_law_644 : decode code 644 = .ok (.iload 6, 2) := by decide +kernel
theorem d_SeriesVaultLaw_law_646 : decode code 646 = .ok (.i2l, 1) := by decide +kernel
theorem d_SeriesVaultLaw_law_647 : decode code 647 = .ok (.lcmp, 1) := by decide +kernel
theorem d_SeriesVaultLaw_law_648 : decode code 648 = .ok (.ifCond .eq 5, 3) := by decide +kernel
theorem d_SeriesVaultLaw_law_653 : decode code 653 = .ok (.goto 1117, 3) := by decide +kernel
theorem w1839 : Cond.constantLong "SeriesVaultLaw" 133 4294967295 ∈ aW := aw_of (tb_11 (List.mem_of_getElem? (i := 79) rfl)) rfl
theorem w1840 : Cond.methodLink "SeriesVaultLaw" 135 ⟨"SeriesVaultLaw", "append", "(LSeriesVault;IJJ[J)I"⟩ ∈ aW := aw_of (tb_5 (List.mem_of_getElem? (i := 130) rfl)) rfl
theorem w1841 : Cond.codeWith ⟨"SeriesVaultLaw", "append", "(LSeriesVault;IJJ[J)I"⟩ method_9_code 8 (some FieldType.int) [(0, 13, 16, 29), (0, 13, 20, 35), (0, 13, 24, 19), (0, 13, 28, 13)] ∈ aW := aw_of (tb_5 (List.mem_of_getElem? (i := 132) rfl)) rfl
theorem w1842 : Cond.static ⟨"SeriesVaultLaw", "append", "(LSeriesVault;IJJ[J)I"⟩ ∈ aW := aw_of (tb_5 (List.mem_of_getElem? (i := 131) rfl)) rfl
theorem w1843 : Cond.methodLink "SeriesVaultLaw" 138 ⟨"SeriesVaultModel", "append", "(IJJ)I"⟩ ∈ aW := aw_of (tb_10 (List.mem_of_getElem? (i := 19) rfl)) rfl
theorem w1844 : Cond.code ⟨"SeriesVaultModel", "append", "(IJJ)I"⟩ prog_14_method_34_code 6 (some FieldType.int) ∈ aW := aw_of (tb_10 (List.mem_of_getElem? (i := 22) rfl)) rfl
theorem w1845 : Cond.instanceMethod ⟨"SeriesVaultModel", "append", "(IJJ)I"⟩ ∈ aW := aw_of (tb_10 (List.mem_of_getElem? (i := 20) rfl)) rfl
theorem w1846 : Cond.selects "SeriesVaultModel" ⟨"SeriesVaultModel", "append", "(IJJ)I"⟩ ⟨"SeriesVaultModel", "append", "(IJJ)I"⟩ ∈ aW := aw_of (tb_10 (List.mem_of_getElem? (i := 21) rfl)) rfl
set_option maxHeartbeats 4000000 in
set_option maxRecDepth 100000 in
theorem l9_6 {p : Program} {e : Env} {s : State} {m : MethodId} {below : List Frame} {meth : Method} {c : Code} (l : Launch) {b L : Nat} {xs : Nat → Int32} {D : va_G} {dA : Nat → ClassId} {e0 : Nat} {A : Nat → Prop} {H : Heap} {locs : List Loc} {ls : Array Slot} (hC : lS p l s m meth c b L xs D dA e0 A) {h : Nat} {ad : Nat → Nat} {x : VS} {mm : Nat} {mad : Nat → Nat} {M M1 : MS} {o : Nat} {og : Nat → Int64} {i fr1 lo1 fr2 lo2 mc9 ms9 cells slots : Nat} {F9 : VS → Prop} {b9 : Int32} {v9 : Int64} (hi : i + 6 ≤ L) (hL : L ≤ 3072) (hfr : fr1 ≤ 2000 ∧ lo1 ≤ 80000 ∧ fr2 ≤ 2000 ∧ lo2 ≤ 80000) (hrm : cells + mc9 ≤ 601024 ∧ slots + ms9 ≤ 7293034) (hcod : M1.cod = 0) (hv : v9 = b9.toInt64) (hW : ∀ sz : Nat, Met l ⟨"SeriesVaultLaw", "append", "(LSeriesVault;IJJ[J)I"⟩ [Cond.codeWith ⟨"SeriesVaultLaw", "append", "(LSeriesVault;IJJ[J)I"⟩ method_9_code 8 (some FieldType.int) [(0, 13, 16, 29), (0, 13, 20, 35), (0, 13, 24, 19), (0, 13, 28, 13)]] { frames := fr1, cells := mc9, slots := ms9, locals := lo1 } (pC D dA [.ref h, .int (xs (i + 1)), .long ((((xs (i + 2)).toInt64) <<< ((32 : Int32).toInt64 &&& 63)) ||| (((xs (i + 3)).toInt64) &&& 4294967295)), .long ((((xs (i + 4)).toInt64) <<< ((32 : Int32).toInt64 &&& 63)) ||| (((xs (i + 5)).toInt64) &&& 4294967295)), .ref o] (([(o, .inl (dA 2, 1, .inr (.inl og)))] : va_W) ++ (VW dA h ad x)) sz) (va_Qi (fun (r9 : Int32) (u9 : VS) => r9 = 0 ∧ F9 u9) (fun (u9 : VS) t9 => bW D (va_A (([(o, .inl (dA 2, 1, .inr (.inl og)))] : va_W) ++ (VW dA h ad x)) sz) (([(o, .inl (dA 2, 1, .inr (.inl (va_up og 0 v9))))] : va_W) ++ (VW dA h ad u9)) t9) (va_A (([(o, .inl (dA 2, 1, .inr (.inl og)))] : va_W) ++ (VW dA h ad x)) sz)) mc9 ms9 (va_A (([(o, .inl (dA 2, 1, .inr (.inl og)))] : va_W) ++ (VW dA h ad x)) sz)) (hM : ∀ sz : Nat, Met l ⟨"SeriesVaultModel", "append", "(IJJ)I"⟩ [Cond.code ⟨"SeriesVaultModel", "append", "(IJJ)I"⟩ prog_14_method_34_code 6 (some FieldType.int)] { frames := fr2, cells := 0, slots := 0, locals := lo2 } (pC D dA [.ref mm, .int (xs (i + 1)), .long ((((xs (i + 2)).toInt64) <<< ((32 : Int32).toInt64 &&& 63)) ||| (((xs (i + 3)).toInt64) &&& 4294967295)), .long ((((xs (i + 4)).toInt64) <<< ((32 : Int32).toInt64 &&& 63)) ||| (((xs (i + 5)).toInt64) &&& 4294967295))] (MW dA mm mad M) sz) (va_Qi (fun (r9 : Int32) (u9 : Unit) => r9 = b9) (fun (u9 : Unit) t9 => bW D (va_A (MW dA mm mad M) sz) (MW dA mm mad M1) t9) (va_A (MW dA mm mad M) sz)) 0 0 (va_A (MW dA mm mad M) sz)) (hP : va_P D vwCl (MW dA mm mad M ++ (([(o, .inl (dA 2, 1, .inr (.inl og)))] : va_W) ++ (VW dA h ad x))) H) (hD : va_D A (MW dA mm mad M ++ (([(o, .inl (dA 2, 1, .inr (.inl og)))] : va_W) ++ (VW dA h ad x)))) (hS : va_S A s.heap H locs) (hl : lv_has ls 8 [(4, .int (nI i)), (3, .ref o), (2, .ref mm), (1, .ref h), (0, .ref b)]) (cont : ∀ (u : VS) (H1 : Heap) (locs1 : List Loc) (ls1 : Array Slot), F9 u → va_P D vwCl (MW dA mm mad M1 ++ (([(o, .inl (dA 2, 1, .inr (.inl (va_up og 0 v9))))] : va_W) ++ (VW dA h ad u))) H1 → va_D A (MW dA mm mad M1 ++ (([(o, .inl (dA 2, 1, .inr (.inl (va_up og 0 v9))))] : va_W) ++ (VW dA h ad u))) → va_S A s.heap H1 locs1 → lv_has ls1 8 [(4, .int (nI (i + 6))), (3, .ref o), (2, .ref mm), (1, .ref h), (0, .ref b)] → W p l e room_1 s m #[Value.ref b] below meth c H1 locs1 (cells + mc9 + 0 + 0) (slots + ms9 + 0 + 0) (lw_Z below #[Value.ref b] s) (F0 m 23 ls1 [])) : W p l e room_1 s m #[Value.ref b] below meth c H locs cells slots (lw_Z below #[Value.ref b] s) (F0 m 512 ls []) := by
  have hC0 := hC
  obtain ⟨hx, hb, hr, hml, hown, hlk, hE, hK, hA, hN, hZ, hT, hX, hbl, hbA, hnew, htr⟩ := hC
  refine lv_aload_n hx hb d_SeriesVaultLaw_law_512 rfl (lv_at hl 3 rfl) ?_
  refine lv_aload_n hx hb d_SeriesVaultLaw_law_513 rfl (lv_at hl 4 rfl) ?_
  refine lv_iload hx hb d_SeriesVaultLaw_law_514 (lv_at hl 0 rfl) ?_
  refine lv_iconst (v := 1) hx hb d_SeriesVaultLaw_law_516 (by decide) ?_
  refine lv_iadd hx hb d_SeriesVaultLaw_law_517 (tpi (y := nI (i + 1)) (nI_add (i) (1)) ?_)
  refine sldN hx hb hX hbl hbA hS (show i + 1 < L by omega) (show L ≤ 65536 by omega) d_SeriesVaultLaw_law_518 ?_
  refine lv_aload_n hx hb d_SeriesVaultLaw_law_519 rfl (lv_at hl 4 rfl) ?_
  refine lv_iload hx hb d_SeriesVaultLaw_law_520 (lv_at hl 0 rfl) ?_
  refine lv_iconst (v := 2) hx hb d_SeriesVaultLaw_law_522 (by decide) ?_
  refine lv_iadd hx hb d_SeriesVaultLaw_law_523 (tpi (y := nI (i + 2)) (nI_add (i) (2)) ?_)
  refine sldN hx hb hX hbl hbA hS (show i + 2 < L by omega) (show L ≤ 65536 by omega) d_SeriesVaultLaw_law_524 ?_
  refine lv_i2l hx hb d_SeriesVaultLaw_law_525 rfl ?_
  refine lv_bipush (v := 32) hx hb d_SeriesVaultLaw_law_526 (by decide) ?_
  refine lv_lshl hx hb d_SeriesVaultLaw_law_528 rfl ?_
  refine lv_aload_n hx hb d_SeriesVaultLaw_law_529 rfl (lv_at hl 4 rfl) ?_
  refine lv_iload hx hb d_SeriesVaultLaw_law_530 (lv_at hl 0 rfl) ?_
  refine lv_iconst (v := 3) hx hb d_SeriesVaultLaw_law_532 (by decide) ?_
  refine lv_iadd hx hb d_SeriesVaultLaw_law_533 (tpi (y := nI (i + 3)) (nI_add (i) (3)) ?_)
  refine sldN hx hb hX hbl hbA hS (show i + 3 < L by omega) (show L ≤ 65536 by omega) d_SeriesVaultLaw_law_534 ?_
  refine lv_i2l hx hb d_SeriesVaultLaw_law_535 rfl ?_
  refine lv_ldc2 (v := 4294967295) hx hb hown (hE.t w1839 rfl) d_SeriesVaultLaw_law_536 ?_
  refine lv_land hx hb d_SeriesVaultLaw_law_539 ?_
  refine lv_lor hx hb d_SeriesVaultLaw_law_540 ?_
  refine lv_aload_n hx hb d_SeriesVaultLaw_law_541 rfl (lv_at hl 4 rfl) ?_
  refine lv_iload hx hb d_SeriesVaultLaw_law_542 (lv_at hl 0 rfl) ?_
  refine lv_iconst (v := 4) hx hb d_SeriesVaultLaw_law_544 (by decide) ?_
  refine lv_iadd hx hb d_SeriesVaultLaw_law_545 (tpi (y := nI (i + 4)) (nI_add (i) (4)) ?_)
  refine sldN hx hb hX hbl hbA hS (show i + 4 < L by omega) (show L ≤ 65536 by omega) d_SeriesVaultLaw_law_546 ?_
  refine lv_i2l hx hb d_SeriesVaultLaw_law_547 rfl ?_
  refine lv_bipush (v := 32) hx hb d_SeriesVaultLaw_law_548 (by decide) ?_
  refine lv_lshl hx hb d_SeriesVaultLaw_law_550 rfl ?_
  refine lv_aload_n hx hb d_SeriesVaultLaw_law_551 rfl (lv_at hl 4 rfl) ?_
  refine lv_iload hx hb d_SeriesVaultLaw_law_552 (lv_at hl 0 rfl) ?_
  refine lv_iconst (v := 5) hx hb d_SeriesVaultLaw_law_554 (by decide) ?_
  refine lv_iadd hx hb d_SeriesVaultLaw_law_555 (tpi (y := nI (i + 5)) (nI_add (i) (5)) ?_)
  refine sldN hx hb hX hbl hbA hS (show i + 5 < L by omega) (show L ≤ 65536 by omega) d_SeriesVaultLaw_law_556 ?_
  refine lv_i2l hx hb d_SeriesVaultLaw_law_557 rfl ?_
  refine lv_ldc2 (v := 4294967295) hx hb hown (hE.t w1839 rfl) d_SeriesVaultLaw_law_558 ?_
  refine lv_land hx hb d_SeriesVaultLaw_law_561 ?_
  refine lv_lor hx hb d_SeriesVaultLaw_law_562 ?_
  refine lv_aload_n hx hb d_SeriesVaultLaw_law_563 rfl (lv_at hl 1 rfl) ?_
  have hPc : va_P D vwCl (([(o, .inl (dA 2, 1, .inr (.inl og)))] : va_W) ++ (VW dA h ad x)) H := spP (wr := MW dA mm mad M) hP
  have hDc : va_D A (([(o, .inl (dA 2, 1, .inr (.inl og)))] : va_W) ++ (VW dA h ad x)) := spD (wr := MW dA mm mad M) hD
  refine jkI (wr := MW dA mm mad M) (rnW (As := [.ref h, .int (xs (i + 1)), .long ((((xs (i + 2)).toInt64) <<< ((32 : Int32).toInt64 &&& 63)) ||| (((xs (i + 3)).toInt64) &&& 4294967295)), .long ((((xs (i + 4)).toInt64) <<< ((32 : Int32).toInt64 &&& 63)) ||| (((xs (i + 5)).toInt64) &&& 4294967295)), .ref o]) (rest := []) hx hb hml hown hE hK (hN _ _ hS) hPc hDc (hW H.size) w1841 w1840 w1842 w1793 rfl rfl ⟨⟨by decide, by decide⟩, rfl⟩ ⟨(show fr1 + 1 ≤ 2048 by omega), (show 8 + (8 + 11) + lo1 ≤ 84000 by omega)⟩ rfl hl.1 rfl (Nat.le_of_ble_eq_true rfl) d_SeriesVaultLaw_law_564 ⟨(show cells + mc9 ≤ 601024 by omega), (show slots + ms9 ≤ 7293034 by omega)⟩) hP hD hS hA (fun k8 u8 H locs hp9 hP hD hS => ?_)
  obtain ⟨hp9, hf9⟩ := hp9
  replace hp9 : 0 = k8 := Eq.symm hp9
  subst hp9
  have hP : va_P D vwCl (MW dA mm mad M ++ (([(o, .inl (dA 2, 1, .inr (.inl (va_up og 0 v9))))] : va_W) ++ (VW dA h ad u8))) H := hP
  have hD : va_D A (MW dA mm mad M ++ (([(o, .inl (dA 2, 1, .inr (.inl (va_up og 0 v9))))] : va_W) ++ (VW dA h ad u8))) := hD
  refine lv_istore hx hb d_SeriesVaultLaw_law_567 hl (by decide) rfl (fun ls hl => ?_)
  have hl : lv_has ls 8 [(5, .int 0), (4, .int (nI i)), (3, .ref o), (2, .ref mm), (1, .ref h), (0, .ref b)] := hl
  refine lv_aload_n hx hb d_SeriesVaultLaw_law_569 rfl (lv_at hl 3 rfl) ?_
  refine lv_aload_n hx hb d_SeriesVaultLaw_law_570 rfl (lv_at hl 5 rfl) ?_
  refine lv_iload hx hb d_SeriesVaultLaw_law_571 (lv_at hl 1 rfl) ?_
  refine lv_iconst (v := 1) hx hb d_SeriesVaultLaw_law_573 (by decide) ?_
  refine lv_iadd hx hb d_SeriesVaultLaw_law_574 (tpi (y := nI (i + 1)) (nI_add (i) (1)) ?_)
  refine sldN hx hb hX hbl hbA hS (show i + 1 < L by omega) (show L ≤ 65536 by omega) d_SeriesVaultLaw_law_575 ?_
  refine lv_aload_n hx hb d_SeriesVaultLaw_law_576 rfl (lv_at hl 5 rfl) ?_
  refine lv_iload hx hb d_SeriesVaultLaw_law_577 (lv_at hl 1 rfl) ?_
  refine lv_iconst (v := 2) hx hb d_SeriesVaultLaw_law_579 (by decide) ?_
  refine lv_iadd hx hb d_SeriesVaultLaw_law_580 (tpi (y := nI (i + 2)) (nI_add (i) (2)) ?_)
  refine sldN hx hb hX hbl hbA hS (show i + 2 < L by omega) (show L ≤ 65536 by omega) d_SeriesVaultLaw_law_581 ?_
  refine lv_i2l hx hb d_SeriesVaultLaw_law_582 rfl ?_
  refine lv_bipush (v := 32) hx hb d_SeriesVaultLaw_law_583 (by decide) ?_
  refine lv_lshl hx hb d_SeriesVaultLaw_law_585 rfl ?_
  refine lv_aload_n hx hb d_SeriesVaultLaw_law_586 rfl (lv_at hl 5 rfl) ?_
  refine lv_iload hx hb d_SeriesVaultLaw_law_587 (lv_at hl 1 rfl) ?_
  refine lv_iconst (v := 3) hx hb d_SeriesVaultLaw_law_589 (by decide) ?_
  refine lv_iadd hx hb d_SeriesVaultLaw_law_590 (tpi (y := nI (i + 3)) (nI_add (i) (3)) ?_)
  refine sldN hx hb hX hbl hbA hS (show i + 3 < L by omega) (show L ≤ 65536 by omega) d_SeriesVaultLaw_law_591 ?_
  refine lv_i2l hx hb d_SeriesVaultLaw_law_592 rfl ?_
  refine lv_ldc2 (v := 4294967295) hx hb hown (hE.t w1839 rfl) d_SeriesVaultLaw_law_593 ?_
  refine lv_land hx hb d_SeriesVaultLaw_law_596 ?_
  refine lv_lor hx hb d_SeriesVaultLaw_law_597 ?_
  refine lv_aload_n hx hb d_SeriesVaultLaw_law_598 rfl (lv_at hl 5 rfl) ?_
  refine lv_iload hx hb d_SeriesVaultLaw_law_599 (lv_at hl 1 rfl) ?_
  refine lv_iconst (v := 4) hx hb d_SeriesVaultLaw_law_601 (by decide) ?_
  refine lv_iadd hx hb d_SeriesVaultLaw_law_602 (tpi (y := nI (i + 4)) (nI_add (i) (4)) ?_)
  refine sldN hx hb hX hbl hbA hS (show i + 4 < L by omega) (show L ≤ 65536 by omega) d_SeriesVaultLaw_law_603 ?_
  refine lv_i2l hx hb d_SeriesVaultLaw_law_604 rfl ?_
  refine lv_bipush (v := 32) hx hb d_SeriesVaultLaw_law_605 (by decide) ?_
  refine lv_lshl hx hb d_SeriesVaultLaw_law_607 rfl ?_
  refine lv_aload_n hx hb d_SeriesVaultLaw_law_608 rfl (lv_at hl 5 rfl) ?_
  refine lv_iload hx hb d_SeriesVaultLaw_law_609 (lv_at hl 1 rfl) ?_
  refine lv_iconst (v := 5) hx hb d_SeriesVaultLaw_law_611 (by decide) ?_
  refine lv_iadd hx hb d_SeriesVaultLaw_law_612 (tpi (y := nI (i + 5)) (nI_add (i) (5)) ?_)
  refine sldN hx hb hX hbl hbA hS (show i + 5 < L by omega) (show L ≤ 65536 by omega) d_SeriesVaultLaw_law_613 ?_
  refine lv_i2l hx hb d_SeriesVaultLaw_law_614 rfl ?_
  refine lv_ldc2 (v := 4294967295) hx hb hown (hE.t w1839 rfl) d_SeriesVaultLaw_law_615 ?_
  refine lv_land hx hb d_SeriesVaultLaw_law_618 ?_
  refine lv_lor hx hb d_SeriesVaultLaw_law_619 ?_
  have hP := pmP (show List.Perm (α := Nat × va_E) (MW dA mm mad M ++ (([(o, .inl (dA 2, 1, .inr (.inl (va_up og 0 v9))))] : va_W) ++ (VW dA h ad u8))) (([(o, .inl (dA 2, 1, .inr (.inl (va_up og 0 v9))))] : va_W) ++ (MW dA mm mad M ++ (VW dA h ad u8))) from List.perm_append_comm_assoc (MW dA mm mad M) (([(o, .inl (dA 2, 1, .inr (.inl (va_up og 0 v9))))] : va_W)) (VW dA h ad u8)) hP
  have hD := pmD (show List.Perm (α := Nat × va_E) (MW dA mm mad M ++ (([(o, .inl (dA 2, 1, .inr (.inl (va_up og 0 v9))))] : va_W) ++ (VW dA h ad u8))) (([(o, .inl (dA 2, 1, .inr (.inl (va_up og 0 v9))))] : va_W) ++ (MW dA mm mad M ++ (VW dA h ad u8))) from List.perm_append_comm_assoc (MW dA mm mad M) (([(o, .inl (dA 2, 1, .inr (.inl (va_up og 0 v9))))] : va_W)) (VW dA h ad u8)) hD
  have hP := pmP (show List.Perm (α := Nat × va_E) (([(o, .inl (dA 2, 1, .inr (.inl (va_up og 0 v9))))] : va_W) ++ (MW dA mm mad M ++ (VW dA h ad u8))) (([(o, .inl (dA 2, 1, .inr (.inl (va_up og 0 v9))))] : va_W) ++ (VW dA h ad u8 ++ (MW dA mm mad M))) from List.Perm.append_left (([(o, .inl (dA 2, 1, .inr (.inl (va_up og 0 v9))))] : va_W)) (List.perm_append_comm)) hP
  have hD := pmD (show List.Perm (α := Nat × va_E) (([(o, .inl (dA 2, 1, .inr (.inl (va_up og 0 v9))))] : va_W) ++ (MW dA mm mad M ++ (VW dA h ad u8))) (([(o, .inl (dA 2, 1, .inr (.inl (va_up og 0 v9))))] : va_W) ++ (VW dA h ad u8 ++ (MW dA mm mad M))) from List.Perm.append_left (([(o, .inl (dA 2, 1, .inr (.inl (va_up og 0 v9))))] : va_W)) (List.perm_append_comm)) hD
  have hPc : va_P D vwCl (MW dA mm mad M) H := spP (wr := ([(o, .inl (dA 2, 1, .inr (.inl (va_up og 0 v9))))] : va_W) ++ (VW dA h ad u8)) hP
  have hDc : va_D A (MW dA mm mad M) := spD (wr := ([(o, .inl (dA 2, 1, .inr (.inl (va_up og 0 v9))))] : va_W) ++ (VW dA h ad u8)) hD
  refine jkI (wr := ([(o, .inl (dA 2, 1, .inr (.inl (va_up og 0 v9))))] : va_W) ++ (VW dA h ad u8)) (rnV (As := [.int (xs (i + 1)), .long ((((xs (i + 2)).toInt64) <<< ((32 : Int32).toInt64 &&& 63)) ||| (((xs (i + 3)).toInt64) &&& 4294967295)), .long ((((xs (i + 4)).toInt64) <<< ((32 : Int32).toInt64 &&& 63)) ||| (((xs (i + 5)).toInt64) &&& 4294967295))]) (rest := []) hx hb hml hown hE hK (hN _ _ hS) hPc hDc (hM H.size) (q0 := 0) rfl rfl w1844 w1843 w1845 w1846 w328 rfl rfl ⟨⟨by decide, by decide⟩, rfl⟩ ⟨(show fr2 + 1 ≤ 2048 by omega), (show 8 + (6 + 11) + lo2 ≤ 84000 by omega)⟩ rfl hl.1 rfl (Nat.le_of_ble_eq_true rfl) d_SeriesVaultLaw_law_620 ⟨(show cells + mc9 + 0 ≤ 601024 by omega), (show slots + ms9 + 0 ≤ 7293034 by omega)⟩) hP hD hS hA (fun r7 u7 H locs hp9 hP hD hS => ?_)
  replace hp9 : b9 = r7 := Eq.symm hp9
  subst hp9
  have hP : va_P D vwCl (([(o, .inl (dA 2, 1, .inr (.inl (va_up og 0 v9))))] : va_W) ++ (VW dA h ad u8 ++ (MW dA mm mad M1))) H := hP
  have hD : va_D A (([(o, .inl (dA 2, 1, .inr (.inl (va_up og 0 v9))))] : va_W) ++ (VW dA h ad u8 ++ (MW dA mm mad M1))) := hD
  refine lv_istore hx hb d_SeriesVaultLaw_law_623 hl (by decide) rfl (fun ls hl => ?_)
  have hl : lv_has ls 8 [(6, .int b9), (5, .int 0), (4, .int (nI i)), (3, .ref o), (2, .ref mm), (1, .ref h), (0, .ref b)] := hl
  refine lv_aload_n hx hb d_SeriesVaultLaw_law_625 rfl (lv_at hl 4 rfl) ?_
  have hPc : va_P D vwCl (MW dA mm mad M1) H := spP (wr := ([(o, .inl (dA 2, 1, .inr (.inl (va_up og 0 v9))))] : va_W) ++ (VW dA h ad u8)) hP
  have hDc : va_D A (MW dA mm mad M1) := spD (wr := ([(o, .inl (dA 2, 1, .inr (.inl (va_up og 0 v9))))] : va_W) ++ (VW dA h ad u8)) hD
  refine jkI (wr := ([(o, .inl (dA 2, 1, .inr (.inl (va_up og 0 v9))))] : va_W) ++ (VW dA h ad u8)) (rnV (As := []) (rest := []) hx hb hml hown hE hK (hN _ _ hS) hPc hDc (k_thrown l D dA H.size mm mad M1) (q0 := 0) rfl rfl w1801 w1800 w1802 w1803 w328 rfl rfl ⟨⟨by decide, by decide⟩, rfl⟩ ⟨(show 1 + 1 ≤ 2048 by omega), (show 8 + (1 + 11) + 0 ≤ 84000 by omega)⟩ rfl hl.1 rfl (Nat.le_of_ble_eq_true rfl) d_SeriesVaultLaw_law_626 ⟨(show cells + mc9 + 0 ≤ 601024 by omega), (show slots + ms9 + 0 ≤ 7293034 by omega)⟩) hP hD hS hA (fun r7 u7 H locs hp9 hP hD hS => ?_)
  replace hp9 : 0 = r7 := Eq.symm (hp9.trans hcod)
  subst hp9
  have hP : va_P D vwCl (([(o, .inl (dA 2, 1, .inr (.inl (va_up og 0 v9))))] : va_W) ++ (VW dA h ad u8 ++ (MW dA mm mad M1))) H := hP
  have hD : va_D A (([(o, .inl (dA 2, 1, .inr (.inl (va_up og 0 v9))))] : va_W) ++ (VW dA h ad u8 ++ (MW dA mm mad M1))) := hD
  refine lv_iload hx hb d_SeriesVaultLaw_law_629 (lv_at hl 1 rfl) ?_
  refine lv_icmp_eq hx hb d_SeriesVaultLaw_law_631 (tgt := 636) rfl (fun _ => ?_) (fun h9 => absurd rfl h9)
  refine lv_iload hx hb d_SeriesVaultLaw_law_636 (lv_at hl 1 rfl) ?_
  refine lv_if_ne hx hb d_SeriesVaultLaw_law_638 (tgt := 653) rfl (fun h9 => absurd (by decide) h9) (fun _ => ?_)
  refine lv_aload_n hx hb d_SeriesVaultLaw_law_641 rfl (lv_at hl 3 rfl) ?_
  refine lv_iconst (v := 0) hx hb d_SeriesVaultLaw_law_642 (by decide) ?_
  refine nlld (f := (va_up og 0 v9)) (n := 1) hx hb hK hP (0) 2 rfl rfl (0) (by decide) (by decide) d_SeriesVaultLaw_law_643 ?_
  refine tpl (y := v9) (va_up_self _ _ _) ?_
  refine lv_iload hx hb d_SeriesVaultLaw_law_644 (lv_at hl 0 rfl) ?_
  refine lv_i2l hx hb d_SeriesVaultLaw_law_646 rfl ?_
  refine W.lcmp hx hb d_SeriesVaultLaw_law_647 ?_
  refine lv_if_eq hx hb d_SeriesVaultLaw_law_648 (tgt := 653) rfl (fun _ => ?_) (fun h9 => absurd ((lg_cmp_eq _ _).mpr hv) h9)
  refine lv_goto hx hb d_SeriesVaultLaw_law_653 (tgt := 1770) rfl ?_
  refine lv_iinc (k := 2) (v := nI (i + 6)) hx hb d_SeriesVaultLaw_law_1770 hl rfl (iincN (i) 6 6 (by decide)) (by decide) rfl (fun ls hl => ?_)
  have hl : lv_has ls 8 [(4, .int (nI (i + 6))), (6, .int b9), (5, .int 0), (3, .ref o), (2, .ref mm), (1, .ref h), (0, .ref b)] := hl
  refine lv_goto hx hb d_SeriesVaultLaw_law_1773 (tgt := 23) rfl ?_
  have hP := pmP (show List.Perm (α := Nat × va_E) (([(o, .inl (dA 2, 1, .inr (.inl (va_up og 0 v9))))] : va_W) ++ (VW dA h ad u8 ++ (MW dA mm mad M1))) (MW dA mm mad M1 ++ (([(o, .inl (dA 2, 1, .inr (.inl (va_up og 0 v9))))] : va_W) ++ (VW dA h ad u8))) from (List.Perm.append_left (([(o, .inl (dA 2, 1, .inr (.inl (va_up og 0 v9))))] : va_W)) (List.perm_append_comm)).trans (List.perm_append_comm_assoc (([(o, .inl (dA 2, 1, .inr (.inl (va_up og 0 v9))))] : va_W)) (MW dA mm mad M1) (VW dA h ad u8))) hP
  have hD := pmD (show List.Perm (α := Nat × va_E) (([(o, .inl (dA 2, 1, .inr (.inl (va_up og 0 v9))))] : va_W) ++ (VW dA h ad u8 ++ (MW dA mm mad M1))) (MW dA mm mad M1 ++ (([(o, .inl (dA 2, 1, .inr (.inl (va_up og 0 v9))))] : va_W) ++ (VW dA h ad u8))) from (List.Perm.append_left (([(o, .inl (dA 2, 1, .inr (.inl (va_up og 0 v9))))] : va_W)) (List.perm_append_comm)).trans (List.perm_append_comm_assoc (([(o, .inl (dA 2, 1, .inr (.inl (va_up og 0 v9))))] : va_W)) (MW dA mm mad M1) (VW dA h ad u8))) hD
  have hP : va_P D vwCl (MW dA mm mad M1 ++ (([(o, .inl (dA 2, 1, .inr (.inl (va_up og 0 v9))))] : va_W) ++ (VW dA h ad u8))) H := hP
  have hD : va_D A (MW dA mm mad M1 ++ (([(o, .inl (dA 2, 1, .inr (.inl (va_up og 0 v9))))] : va_W) ++ (VW dA h ad u8))) := hD
  have hl := lv_sub (l' := [(4, .int (nI (i + 6))), (3, .ref o), (2, .ref mm), (1, .ref h), (0, .ref b)]) hl [0, 3, 4, 5, 6] rfl
  exact cont u8 H locs ls hf9 hP hD hS hl
set_option maxHeartbeats 4000000 in
set_option maxRecDepth 100000 in
theorem l9_6_x {p : Program} {e : Env} {s : State} {m : MethodId} {below : List Frame} {meth : Method} {c : Code} (l : Launch) {b L : Nat} {xs : Nat → Int32} {D : va_G} {dA : Nat → ClassId} {e0 : Nat} {A : Nat → Prop} {H : Heap} {locs : List Loc} {ls : Array Slot} (hC : lS p l s m meth c b L xs D dA e0 A) {h : Nat} {ad : Nat → Nat} {x : VS} {mm : Nat} {mad : Nat → Nat} {M M1 : MS} {o : Nat} {og : Nat → Int64} {i fr1 lo1 fr2 lo2 mc9 ms9 cells slots : Nat} {F9 : VS → Prop} {b9 : Int32} {k9 : Nat} (hi : i + 6 ≤ L) (hL : L ≤ 3072) (hfr : fr1 ≤ 2000 ∧ lo1 ≤ 80000 ∧ fr2 ≤ 2000 ∧ lo2 ≤ 80000) (hrm : cells + mc9 ≤ 601024 ∧ slots + ms9 ≤ 7293034) (hcod : M1.cod = nI k9) (hk9 : ¬ nI k9 = 0) (hW : ∀ sz : Nat, Met l ⟨"SeriesVaultLaw", "append", "(LSeriesVault;IJJ[J)I"⟩ [Cond.codeWith ⟨"SeriesVaultLaw", "append", "(LSeriesVault;IJJ[J)I"⟩ method_9_code 8 (some FieldType.int) [(0, 13, 16, 29), (0, 13, 20, 35), (0, 13, 24, 19), (0, 13, 28, 13)]] { frames := fr1, cells := mc9, slots := ms9, locals := lo1 } (pC D dA [.ref h, .int (xs (i + 1)), .long ((((xs (i + 2)).toInt64) <<< ((32 : Int32).toInt64 &&& 63)) ||| (((xs (i + 3)).toInt64) &&& 4294967295)), .long ((((xs (i + 4)).toInt64) <<< ((32 : Int32).toInt64 &&& 63)) ||| (((xs (i + 5)).toInt64) &&& 4294967295)), .ref o] (([(o, .inl (dA 2, 1, .inr (.inl og)))] : va_W) ++ (VW dA h ad x)) sz) (va_Qi (fun (r9 : Int32) (u9 : VS) => r9 = nI k9 ∧ F9 u9) (fun (u9 : VS) t9 => bW D (va_A (([(o, .inl (dA 2, 1, .inr (.inl og)))] : va_W) ++ (VW dA h ad x)) sz) (([(o, .inl (dA 2, 1, .inr (.inl (og))))] : va_W) ++ (VW dA h ad u9)) t9) (va_A (([(o, .inl (dA 2, 1, .inr (.inl og)))] : va_W) ++ (VW dA h ad x)) sz)) mc9 ms9 (va_A (([(o, .inl (dA 2, 1, .inr (.inl og)))] : va_W) ++ (VW dA h ad x)) sz)) (hM : ∀ sz : Nat, Met l ⟨"SeriesVaultModel", "append", "(IJJ)I"⟩ [Cond.code ⟨"SeriesVaultModel", "append", "(IJJ)I"⟩ prog_14_method_34_code 6 (some FieldType.int)] { frames := fr2, cells := 0, slots := 0, locals := lo2 } (pC D dA [.ref mm, .int (xs (i + 1)), .long ((((xs (i + 2)).toInt64) <<< ((32 : Int32).toInt64 &&& 63)) ||| (((xs (i + 3)).toInt64) &&& 4294967295)), .long ((((xs (i + 4)).toInt64) <<< ((32 : Int32).toInt64 &&& 63)) ||| (((xs (i + 5)).toInt64) &&& 4294967295))] (MW dA mm mad M) sz) (va_Qi (fun (r9 : Int32) (u9 : Unit) => r9 = b9) (fun (u9 : Unit) t9 => bW D (va_A (MW dA mm mad M) sz) (MW dA mm mad M1) t9) (va_A (MW dA mm mad M) sz)) 0 0 (va_A (MW dA mm mad M) sz)) (hP : va_P D vwCl (MW dA mm mad M ++ (([(o, .inl (dA 2, 1, .inr (.inl og)))] : va_W) ++ (VW dA h ad x))) H) (hD : va_D A (MW dA mm mad M ++ (([(o, .inl (dA 2, 1, .inr (.inl og)))] : va_W) ++ (VW dA h ad x)))) (hS : va_S A s.heap H locs) (hl : lv_has ls 8 [(4, .int (nI i)), (3, .ref o), (2, .ref mm), (1, .ref h), (0, .ref b)]) (cont : ∀ (u : VS) (H1 : Heap) (locs1 : List Loc) (ls1 : Array Slot), F9 u → va_P D vwCl (MW dA mm mad M1 ++ (([(o, .inl (dA 2, 1, .inr (.inl og)))] : va_W) ++ (VW dA h ad u))) H1 → va_D A (MW dA mm mad M1 ++ (([(o, .inl (dA 2, 1, .inr (.inl og)))] : va_W) ++ (VW dA h ad u))) → va_S A s.heap H1 locs1 → lv_has ls1 8 [(4, .int (nI (i + 6))), (3, .ref o), (2, .ref mm), (1, .ref h), (0, .ref b)] → W p l e room_1 s m #[Value.ref b] below meth c H1 locs1 (cells + mc9 + 0 + 0) (slots + ms9 + 0 + 0) (lw_Z below #[Value.ref b] s) (F0 m 23 ls1 [])) : W p l e room_1 s m #[Value.ref b] below meth c H locs cells slots (lw_Z below #[Value.ref b] s) (F0 m 512 ls []) := by
  have hC0 := hC
  obtain ⟨hx, hb, hr, hml, hown, hlk, hE, hK, hA, hN, hZ, hT, hX, hbl, hbA, hnew, htr⟩ := hC
  refine lv_aload_n hx hb d_SeriesVaultLaw_law_512 rfl (lv_at hl 3 rfl) ?_
  refine lv_aload_n hx hb d_SeriesVaultLaw_law_513 rfl (lv_at hl 4 rfl) ?_
  refine lv_iload hx hb d_SeriesVaultLaw_law_514 (lv_at hl 0 rfl) ?_
  refine lv_iconst (v := 1) hx hb d_SeriesVaultLaw_law_516 (by decide) ?_
  refine lv_iadd hx hb d_SeriesVaultLaw_law_517 (tpi (y := nI (i + 1)) (nI_add (i) (1)) ?_)
  refine sldN hx hb hX hbl hbA hS (show i + 1 < L by omega) (show L ≤ 65536 by omega) d_SeriesVaultLaw_law_518 ?_
  refine lv_aload_n hx hb d_SeriesVaultLaw_law_519 rfl (lv_at hl 4 rfl) ?_
  refine lv_iload hx hb d_SeriesVaultLaw_law_520 (lv_at hl 0 rfl) ?_
  refine lv_iconst (v := 2) hx hb d_SeriesVaultLaw_law_522 (by decide) ?_
  refine lv_iadd hx hb d_SeriesVaultLaw_law_523 (tpi (y := nI (i + 2)) (nI_add (i) (2)) ?_)
  refine sldN hx hb hX hbl hbA hS (show i + 2 < L by omega) (show L ≤ 65536 by omega) d_SeriesVaultLaw_law_524 ?_
  refine lv_i2l hx hb d_SeriesVaultLaw_law_525 rfl ?_
  refine lv_bipush (v := 32) hx hb d_SeriesVaultLaw_law_526 (by decide) ?_
  refine lv_lshl hx hb d_SeriesVaultLaw_law_528 rfl ?_
  refine lv_aload_n hx hb d_SeriesVaultLaw_law_529 rfl (lv_at hl 4 rfl) ?_
  refine lv_iload hx hb d_SeriesVaultLaw_law_530 (lv_at hl 0 rfl) ?_
  refine lv_iconst (v := 3) hx hb d_SeriesVaultLaw_law_532 (by decide) ?_
  refine lv_iadd hx hb d_SeriesVaultLaw_law_533 (tpi (y := nI (i + 3)) (nI_add (i) (3)) ?_)
  refine sldN hx hb hX hbl hbA hS (show i + 3 < L by omega) (show L ≤ 65536 by omega) d_SeriesVaultLaw_law_534 ?_
  refine lv_i2l hx hb d_SeriesVaultLaw_law_535 rfl ?_
  refine lv_ldc2 (v := 4294967295) hx hb hown (hE.t w1839 rfl) d_SeriesVaultLaw_law_536 ?_
  refine lv_land hx hb d_SeriesVaultLaw_law_539 ?_
  refine lv_lor hx hb d_SeriesVaultLaw_law_540 ?_
  refine lv_aload_n hx hb d_SeriesVaultLaw_law_541 rfl (lv_at hl 4 rfl) ?_
  refine lv_iload hx hb d_SeriesVaultLaw_law_542 (lv_at hl 0 rfl) ?_
  refine lv_iconst (v := 4) hx hb d_SeriesVaultLaw_law_544 (by decide) ?_
  refine lv_iadd hx hb d_SeriesVaultLaw_law_545 (tpi (y := nI (i + 4)) (nI_add (i) (4)) ?_)
  refine sldN hx hb hX hbl hbA hS (show i + 4 < L by omega) (show L ≤ 65536 by omega) d_SeriesVaultLaw_law_546 ?_
  refine lv_i2l hx hb d_SeriesVaultLaw_law_547 rfl ?_
  refine lv_bipush (v := 32) hx hb d_SeriesVaultLaw_law_548 (by decide) ?_
  refine lv_lshl hx hb d_SeriesVaultLaw_law_550 rfl ?_
  refine lv_aload_n hx hb d_SeriesVaultLaw_law_551 rfl (lv_at hl 4 rfl) ?_
  refine lv_iload hx hb d_SeriesVaultLaw_law_552 (lv_at hl 0 rfl) ?_
  refine lv_iconst (v := 5) hx hb d_SeriesVaultLaw_law_554 (by decide) ?_
  refine lv_iadd hx hb d_SeriesVaultLaw_law_555 (tpi (y := nI (i + 5)) (nI_add (i) (5)) ?_)
  refine sldN hx hb hX hbl hbA hS (show i + 5 < L by omega) (show L ≤ 65536 by omega) d_SeriesVaultLaw_law_556 ?_
  refine lv_i2l hx hb d_SeriesVaultLaw_law_557 rfl ?_
  refine lv_ldc2 (v := 4294967295) hx hb hown (hE.t w1839 rfl) d_SeriesVaultLaw_law_558 ?_
  refine lv_land hx hb d_SeriesVaultLaw_law_561 ?_
  refine lv_lor hx hb d_SeriesVaultLaw_law_562 ?_
  refine lv_aload_n hx hb d_SeriesVaultLaw_law_563 rfl (lv_at hl 1 rfl) ?_
  have hPc : va_P D vwCl (([(o, .inl (dA 2, 1, .inr (.inl og)))] : va_W) ++ (VW dA h ad x)) H := spP (wr := MW dA mm mad M) hP
  have hDc : va_D A (([(o, .inl (dA 2, 1, .inr (.inl og)))] : va_W) ++ (VW dA h ad x)) := spD (wr := MW dA mm mad M) hD
  refine jkI (wr := MW dA mm mad M) (rnW (As := [.ref h, .int (xs (i + 1)), .long ((((xs (i + 2)).toInt64) <<< ((32 : Int32).toInt64 &&& 63)) ||| (((xs (i + 3)).toInt64) &&& 4294967295)), .long ((((xs (i + 4)).toInt64) <<< ((32 : Int32).toInt64 &&& 63)) ||| (((xs (i + 5)).toInt64) &&& 4294967295)), .ref o]) (rest := []) hx hb hml hown hE hK (hN _ _ hS) hPc hDc (hW H.size) w1841 w1840 w1842 w1793 rfl rfl ⟨⟨by decide, by decide⟩, rfl⟩ ⟨(show fr1 + 1 ≤ 2048 by omega), (show 8 + (8 + 11) + lo1 ≤ 84000 by omega)⟩ rfl hl.1 rfl (Nat.le_of_ble_eq_true rfl) d_SeriesVaultLaw_law_564 ⟨(show cells + mc9 ≤ 601024 by omega), (show slots + ms9 ≤ 7293034 by omega)⟩) hP hD hS hA (fun k8 u8 H locs hp9 hP hD hS => ?_)
  obtain ⟨hp9, hf9⟩ := hp9
  replace hp9 : nI k9 = k8 := Eq.symm hp9
  subst hp9
  have hP : va_P D vwCl (MW dA mm mad M ++ (([(o, .inl (dA 2, 1, .inr (.inl og)))] : va_W) ++ (VW dA h ad u8))) H := hP
  have hD : va_D A (MW dA mm mad M ++ (([(o, .inl (dA 2, 1, .inr (.inl og)))] : va_W) ++ (VW dA h ad u8))) := hD
  refine lv_istore hx hb d_SeriesVaultLaw_law_567 hl (by decide) rfl (fun ls hl => ?_)
  have hl : lv_has ls 8 [(5, .int (nI k9)), (4, .int (nI i)), (3, .ref o), (2, .ref mm), (1, .ref h), (0, .ref b)] := hl
  refine lv_aload_n hx hb d_SeriesVaultLaw_law_569 rfl (lv_at hl 3 rfl) ?_
  refine lv_aload_n hx hb d_SeriesVaultLaw_law_570 rfl (lv_at hl 5 rfl) ?_
  refine lv_iload hx hb d_SeriesVaultLaw_law_571 (lv_at hl 1 rfl) ?_
  refine lv_iconst (v := 1) hx hb d_SeriesVaultLaw_law_573 (by decide) ?_
  refine lv_iadd hx hb d_SeriesVaultLaw_law_574 (tpi (y := nI (i + 1)) (nI_add (i) (1)) ?_)
  refine sldN hx hb hX hbl hbA hS (show i + 1 < L by omega) (show L ≤ 65536 by omega) d_SeriesVaultLaw_law_575 ?_
  refine lv_aload_n hx hb d_SeriesVaultLaw_law_576 rfl (lv_at hl 5 rfl) ?_
  refine lv_iload hx hb d_SeriesVaultLaw_law_577 (lv_at hl 1 rfl) ?_
  refine lv_iconst (v := 2) hx hb d_SeriesVaultLaw_law_579 (by decide) ?_
  refine lv_iadd hx hb d_SeriesVaultLaw_law_580 (tpi (y := nI (i + 2)) (nI_add (i) (2)) ?_)
  refine sldN hx hb hX hbl hbA hS (show i + 2 < L by omega) (show L ≤ 65536 by omega) d_SeriesVaultLaw_law_581 ?_
  refine lv_i2l hx hb d_SeriesVaultLaw_law_582 rfl ?_
  refine lv_bipush (v := 32) hx hb d_SeriesVaultLaw_law_583 (by decide) ?_
  refine lv_lshl hx hb d_SeriesVaultLaw_law_585 rfl ?_
  refine lv_aload_n hx hb d_SeriesVaultLaw_law_586 rfl (lv_at hl 5 rfl) ?_
  refine lv_iload hx hb d_SeriesVaultLaw_law_587 (lv_at hl 1 rfl) ?_
  refine lv_iconst (v := 3) hx hb d_SeriesVaultLaw_law_589 (by decide) ?_
  refine lv_iadd hx hb d_SeriesVaultLaw_law_590 (tpi (y := nI (i + 3)) (nI_add (i) (3)) ?_)
  refine sldN hx hb hX hbl hbA hS (show i + 3 < L by omega) (show L ≤ 65536 by omega) d_SeriesVaultLaw_law_591 ?_
  refine lv_i2l hx hb d_SeriesVaultLaw_law_592 rfl ?_
  refine lv_ldc2 (v := 4294967295) hx hb hown (hE.t w1839 rfl) d_SeriesVaultLaw_law_593 ?_
  refine lv_land hx hb d_SeriesVaultLaw_law_596 ?_
  refine lv_lor hx hb d_SeriesVaultLaw_law_597 ?_
  refine lv_aload_n hx hb d_SeriesVaultLaw_law_598 rfl (lv_at hl 5 rfl) ?_
  refine lv_iload hx hb d_SeriesVaultLaw_law_599 (lv_at hl 1 rfl) ?_
  refine lv_iconst (v := 4) hx hb d_SeriesVaultLaw_law_601 (by decide) ?_
  refine lv_iadd hx hb d_SeriesVaultLaw_law_602 (tpi (y := nI (i + 4)) (nI_add (i) (4)) ?_)
  refine sldN hx hb hX hbl hbA hS (show i + 4 < L by omega) (show L ≤ 65536 by omega) d_SeriesVaultLaw_law_603 ?_
  refine lv_i2l hx hb d_SeriesVaultLaw_law_604 rfl ?_
  refine lv_bipush (v := 32) hx hb d_SeriesVaultLaw_law_605 (by decide) ?_
  refine lv_lshl hx hb d_SeriesVaultLaw_law_607 rfl ?_
  refine lv_aload_n hx hb d_SeriesVaultLaw_law_608 rfl (lv_at hl 5 rfl) ?_
  refine lv_iload hx hb d_SeriesVaultLaw_law_609 (lv_at hl 1 rfl) ?_
  refine lv_iconst (v := 5) hx hb d_SeriesVaultLaw_law_611 (by decide) ?_
  refine lv_iadd hx hb d_SeriesVaultLaw_law_612 (tpi (y := nI (i + 5)) (nI_add (i) (5)) ?_)
  refine sldN hx hb hX hbl hbA hS (show i + 5 < L by omega) (show L ≤ 65536 by omega) d_SeriesVaultLaw_law_613 ?_
  refine lv_i2l hx hb d_SeriesVaultLaw_law_614 rfl ?_
  refine lv_ldc2 (v := 4294967295) hx hb hown (hE.t w1839 rfl) d_SeriesVaultLaw_law_615 ?_
  refine lv_land hx hb d_SeriesVaultLaw_law_618 ?_
  refine lv_lor hx hb d_SeriesVaultLaw_law_619 ?_
  have hP := pmP (show List.Perm (α := Nat × va_E) (MW dA mm mad M ++ (([(o, .inl (dA 2, 1, .inr (.inl og)))] : va_W) ++ (VW dA h ad u8))) (([(o, .inl (dA 2, 1, .inr (.inl og)))] : va_W) ++ (MW dA mm mad M ++ (VW dA h ad u8))) from List.perm_append_comm_assoc (MW dA mm mad M) (([(o, .inl (dA 2, 1, .inr (.inl og)))] : va_W)) (VW dA h ad u8)) hP
  have hD := pmD (show List.Perm (α := Nat × va_E) (MW dA mm mad M ++ (([(o, .inl (dA 2, 1, .inr (.inl og)))] : va_W) ++ (VW dA h ad u8))) (([(o, .inl (dA 2, 1, .inr (.inl og)))] : va_W) ++ (MW dA mm mad M ++ (VW dA h ad u8))) from List.perm_append_comm_assoc (MW dA mm mad M) (([(o, .inl (dA 2, 1, .inr (.inl og)))] : va_W)) (VW dA h ad u8)) hD
  have hP := pmP (show List.Perm (α := Nat × va_E) (([(o, .inl (dA 2, 1, .inr (.inl og)))] : va_W) ++ (MW dA mm mad M ++ (VW dA h ad u8))) (([(o, .inl (dA 2, 1, .inr (.inl og)))] : va_W) ++ (VW dA h ad u8 ++ (MW dA mm mad M))) from List.Perm.append_left (([(o, .inl (dA 2, 1, .inr (.inl og)))] : va_W)) (List.perm_append_comm)) hP
  have hD := pmD (show List.Perm (α := Nat × va_E) (([(o, .inl (dA 2, 1, .inr (.inl og)))] : va_W) ++ (MW dA mm mad M ++ (VW dA h ad u8))) (([(o, .inl (dA 2, 1, .inr (.inl og)))] : va_W) ++ (VW dA h ad u8 ++ (MW dA mm mad M))) from List.Perm.append_left (([(o, .inl (dA 2, 1, .inr (.inl og)))] : va_W)) (List.perm_append_comm)) hD
  have hPc : va_P D vwCl (MW dA mm mad M) H := spP (wr := ([(o, .inl (dA 2, 1, .inr (.inl og)))] : va_W) ++ (VW dA h ad u8)) hP
  have hDc : va_D A (MW dA mm mad M) := spD (wr := ([(o, .inl (dA 2, 1, .inr (.inl og)))] : va_W) ++ (VW dA h ad u8)) hD
  refine jkI (wr := ([(o, .inl (dA 2, 1, .inr (.inl og)))] : va_W) ++ (VW dA h ad u8)) (rnV (As := [.int (xs (i + 1)), .long ((((xs (i + 2)).toInt64) <<< ((32 : Int32).toInt64 &&& 63)) ||| (((xs (i + 3)).toInt64) &&& 4294967295)), .long ((((xs (i + 4)).toInt64) <<< ((32 : Int32).toInt64 &&& 63)) ||| (((xs (i + 5)).toInt64) &&& 4294967295))]) (rest := []) hx hb hml hown hE hK (hN _ _ hS) hPc hDc (hM H.size) (q0 := 0) rfl rfl w1844 w1843 w1845 w1846 w328 rfl rfl ⟨⟨by decide, by decide⟩, rfl⟩ ⟨(show fr2 + 1 ≤ 2048 by omega), (show 8 + (6 + 11) + lo2 ≤ 84000 by omega)⟩ rfl hl.1 rfl (Nat.le_of_ble_eq_true rfl) d_SeriesVaultLaw_law_620 ⟨(show cells + mc9 + 0 ≤ 601024 by omega), (show slots + ms9 + 0 ≤ 7293034 by omega)⟩) hP hD hS hA (fun r7 u7 H locs hp9 hP hD hS => ?_)
  replace hp9 : b9 = r7 := Eq.symm hp9
  subst hp9
  have hP : va_P D vwCl (([(o, .inl (dA 2, 1, .inr (.inl og)))] : va_W) ++ (VW dA h ad u8 ++ (MW dA mm mad M1))) H := hP
  have hD : va_D A (([(o, .inl (dA 2, 1, .inr (.inl og)))] : va_W) ++ (VW dA h ad u8 ++ (MW dA mm mad M1))) := hD
  refine lv_istore hx hb d_SeriesVaultLaw_law_623 hl (by decide) rfl (fun ls hl => ?_)
  have hl : lv_has ls 8 [(6, .int b9), (5, .int (nI k9)), (4, .int (nI i)), (3, .ref o), (2, .ref mm), (1, .ref h), (0, .ref b)] := hl
  refine lv_aload_n hx hb d_SeriesVaultLaw_law_625 rfl (lv_at hl 4 rfl) ?_
  have hPc : va_P D vwCl (MW dA mm mad M1) H := spP (wr := ([(o, .inl (dA 2, 1, .inr (.inl og)))] : va_W) ++ (VW dA h ad u8)) hP
  have hDc : va_D A (MW dA mm mad M1) := spD (wr := ([(o, .inl (dA 2, 1, .inr (.inl og)))] : va_W) ++ (VW dA h ad u8)) hD
  refine jkI (wr := ([(o, .inl (dA 2, 1, .inr (.inl og)))] : va_W) ++ (VW dA h ad u8)) (rnV (As := []) (rest := []) hx hb hml hown hE hK (hN _ _ hS) hPc hDc (k_thrown l D dA H.size mm mad M1) (q0 := 0) rfl rfl w1801 w1800 w1802 w1803 w328 rfl rfl ⟨⟨by decide, by decide⟩, rfl⟩ ⟨(show 1 + 1 ≤ 2048 by omega), (show 8 + (1 + 11) + 0 ≤ 84000 by omega)⟩ rfl hl.1 rfl (Nat.le_of_ble_eq_true rfl) d_SeriesVaultLaw_law_626 ⟨(show cells + mc9 + 0 ≤ 601024 by omega), (show slots + ms9 + 0 ≤ 7293034 by omega)⟩) hP hD hS hA (fun r7 u7 H locs hp9 hP hD hS => ?_)
  replace hp9 : nI k9 = r7 := Eq.symm (hp9.trans hcod)
  subst hp9
  have hP : va_P D vwCl (([(o, .inl (dA 2, 1, .inr (.inl og)))] : va_W) ++ (VW dA h ad u8 ++ (MW dA mm mad M1))) H := hP
  have hD : va_D A (([(o, .inl (dA 2, 1, .inr (.inl og)))] : va_W) ++ (VW dA h ad u8 ++ (MW dA mm mad M1))) := hD
  refine lv_iload hx hb d_SeriesVaultLaw_law_629 (lv_at hl 1 rfl) ?_
  refine lv_icmp_eq hx hb d_SeriesVaultLaw_law_631 (tgt := 636) rfl (fun _ => ?_) (fun h9 => absurd rfl h9)
  refine lv_iload hx hb d_SeriesVaultLaw_law_636 (lv_at hl 1 rfl) ?_
  refine lv_if_ne hx hb d_SeriesVaultLaw_law_638 (tgt := 653) rfl (fun _ => ?_) (fun h9 => absurd h9 hk9)
  refine lv_goto hx hb d_SeriesVaultLaw_law_653 (tgt := 1770) rfl ?_
  refine lv_iinc (k := 2) (v := nI (i + 6)) hx hb d_SeriesVaultLaw_law_1770 hl rfl (iincN (i) 6 6 (by decide)) (by decide) rfl (fun ls hl => ?_)
  have hl : lv_has ls 8 [(4, .int (nI (i + 6))), (6, .int b9), (5, .int (nI k9)), (3, .ref o), (2, .ref mm), (1, .ref h), (0, .ref b)] := hl
  refine lv_goto hx hb d_SeriesVaultLaw_law_1773 (tgt := 23) rfl ?_
  have hP := pmP (show List.Perm (α := Nat × va_E) (([(o, .inl (dA 2, 1, .inr (.inl og)))] : va_W) ++ (VW dA h ad u8 ++ (MW dA mm mad M1))) (MW dA mm mad M1 ++ (([(o, .inl (dA 2, 1, .inr (.inl og)))] : va_W) ++ (VW dA h ad u8))) from (List.Perm.append_left (([(o, .inl (dA 2, 1, .inr (.inl og)))] : va_W)) (List.perm_append_comm)).trans (List.perm_append_comm_assoc (([(o, .inl (dA 2, 1, .inr (.inl og)))] : va_W)) (MW dA mm mad M1) (VW dA h ad u8))) hP
  have hD := pmD (show List.Perm (α := Nat × va_E) (([(o, .inl (dA 2, 1, .inr (.inl og)))] : va_W) ++ (VW dA h ad u8 ++ (MW dA mm mad M1))) (MW dA mm mad M1 ++ (([(o, .inl (dA 2, 1, .inr (.inl og)))] : va_W) ++ (VW dA h ad u8))) from (List.Perm.append_left (([(o, .inl (dA 2, 1, .inr (.inl og)))] : va_W)) (List.perm_append_comm)).trans (List.perm_append_comm_assoc (([(o, .inl (dA 2, 1, .inr (.inl og)))] : va_W)) (MW dA mm mad M1) (VW dA h ad u8))) hD
  have hP : va_P D vwCl (MW dA mm mad M1 ++ (([(o, .inl (dA 2, 1, .inr (.inl og)))] : va_W) ++ (VW dA h ad u8))) H := hP
  have hD : va_D A (MW dA mm mad M1 ++ (([(o, .inl (dA 2, 1, .inr (.inl og)))] : va_W) ++ (VW dA h ad u8))) := hD
  have hl := lv_sub (l' := [(4, .int (nI (i + 6))), (3, .ref o), (2, .ref mm), (1, .ref h), (0, .ref b)]) hl [0, 3, 4, 5, 6] rfl
  exact cont u8 H locs ls hf9 hP hD hS hl
theorem d_SeriesVaultLaw_law_656 : decode code 656 = .ok (.aload_n 1, 1) := by decide +kernel
theorem d_SeriesVaultLaw_law_657 : decode code 657 = .ok (.aload_n 0, 1) := by decide +kernel
theorem d_SeriesVaultLaw_law_658 : decode code 658 = .ok (.iload 4, 2) := by decide +kernel
theorem d_SeriesVaultLaw_law_660 : decode code 660 = .ok (.iconst 1, 1) := by decide +kernel
theorem d_SeriesVaultLaw_law_661 : decode code 661 = .ok (.iadd, 1) := by decide +kernel
theorem d_SeriesVaultLaw_law_662 : decode code 662 = .ok (.iaload, 1) := by decide +kernel
theorem d_SeriesVaultLaw_law_663 : decode code 663 = .ok (.aload_n 3, 1) := by decide +kernel
theorem d_SeriesVaultLaw_law_664 : decode code 664 = .ok (.invokestatic 139, 3) := by decide +kernel
theorem d_SeriesVaultLaw_law_667 : decode code 667 = .ok (.istore 5, 2) := by decide +kernel
theorem d_SeriesVaultLaw_law_669 : decode code 669 = .ok (.aload_n 2, 1) := by decide +kernel
theorem d_SeriesVaultLaw_law_670 : decode code 670 = .ok (.aload_n 0, 1) := by decide +kernel
theorem d_SeriesVaultLaw_law_671 : decode code 671 = .ok (.iload 4, 2) := by decide +kernel
theorem d_SeriesVaultLaw_law_673 : decode code 673 = .ok (.iconst 1, 1) := by decide +kernel
theorem d_SeriesVaultLaw_law_674 : decode code 674 = .ok (.iadd, 1) := by decide +kernel
theorem d_SeriesVaultLaw_law_675 : decode code 675 = .ok (.iaload, 1) := by decide +kernel
theorem d_SeriesVaultLaw_law_676 : decode code 676 = .ok (.invokevirtual 141, 3) := by decide +kernel
theorem d_SeriesVaultLaw_law_679 : decode code 679 = .ok (.istore 6, 2) := by decide +kernel
theorem d_SeriesVaultLaw_law_681 : decode code 681 = .ok (.aload_n 2, 1) := by decide +kernel
theorem d_SeriesVaultLaw_law_682 : decode code 682 = .ok (.invokevirtual 110, 3) := by decide +kernel
theorem d_SeriesVaultLaw_law_685 : decode code 685 = .ok (.iload 5, 2) := by decide +kernel
theorem d_SeriesVaultLaw_law_687 : decode code 687 = .ok (.if_icmp .eq 5, 3) := by decide +kernel
theorem d_SeriesVaultLaw_law_692 : decode code 692 = .ok (.iload 5, 2) := by decide +kernel
theorem d_SeriesVaultLaw_law_694 : decode code 694 = .ok (.ifCond .ne 15, 3) := by decide +kernel
theorem d_SeriesVaultLaw_law_697 : decode code 697 = .ok (.aload_n 3, 1) := by decide +kernel
theorem d_SeriesVaultLaw_law_698 : decode code 698 = .ok (.iconst 0, 1) := by decide +kernel
theorem d_SeriesVaultLaw_law_699 : decode code 699 = .ok (.laload, 1) := by decide +kernel
theorem d_SeriesVaultLaw_law_700 : decode code 700 = .ok (.iload 6, 2) := by decide +kernel
theorem d_SeriesVaultLaw_law_702 : decode code 702 = .ok (.i2l, 1) := by decide +kernel
theorem d_SeriesVaultLaw_law_703 : decode code 703 = .ok (.lcmp, 1) := by decide +kernel
theorem d_SeriesVaultLaw_law_704 : decode code 704 = .ok (.ifCond .eq 5, 3) := by decide +kernel
theorem d_SeriesVaultLaw_law_709 : decode code 709 = .ok (.goto 1061, 3) := by decide +kernel
theorem w1847 : Cond.methodLink "SeriesVaultLaw" 139 ⟨"SeriesVaultLaw", "bulk", "(LSeriesVault;I[J)I"⟩ ∈ aW := aw_of (tb_5 (List.mem_of_getElem? (i := 163) rfl)) rfl
theorem w1848 : Cond.codeWith ⟨"SeriesVaultLaw", "bulk", "(LSeriesVault;I[J)I"⟩ method_10_code 4 (some FieldType.int) [(0, 9, 12, 29), (0, 9, 15, 35)] ∈ aW := aw_of (tb_5 (List.mem_of_getElem? (i := 165) rfl)) rfl
theorem w1849 : Cond.static ⟨"SeriesVaultLaw", "bulk", "(LSeriesVault;I[J)I"⟩ ∈ aW := aw_of (tb_5 (List.mem_of_getElem? (i := 164) rfl)) rfl
theorem w1850 : Cond.methodLink "SeriesVaultLaw" 141 ⟨"SeriesVaultModel", "bulk", "(I)I"⟩ ∈ aW := aw_of (tb_10 (List.mem_of_getElem? (i := 40) rfl)) rfl
theorem w1851 : Cond.code ⟨"SeriesVaultModel", "bulk", "(I)I"⟩ prog_14_method_36_code 7 (some FieldType.int) ∈ aW := aw_of (tb_10 (List.mem_of_getElem? (i := 43) rfl)) rfl
theorem w1852 : Cond.instanceMethod ⟨"SeriesVaultModel", "bulk", "(I)I"⟩ ∈ aW := aw_of (tb_10 (List.mem_of_getElem? (i := 41) rfl)) rfl
theorem w1853 : Cond.selects "SeriesVaultModel" ⟨"SeriesVaultModel", "bulk", "(I)I"⟩ ⟨"SeriesVaultModel", "bulk", "(I)I"⟩ ∈ aW := aw_of (tb_10 (List.mem_of_getElem? (i := 42) rfl)) rfl
set_option maxHeartbeats 4000000 in
set_option maxRecDepth 100000 in
theorem l9_7 {p : Program} {e : Env} {s : State} {m : MethodId} {below : List Frame} {meth : Method} {c : Code} (l : Launch) {b L : Nat} {xs : Nat → Int32} {D : va_G} {dA : Nat → ClassId} {e0 : Nat} {A : Nat → Prop} {H : Heap} {locs : List Loc} {ls : Array Slot} (hC : lS p l s m meth c b L xs D dA e0 A) {h : Nat} {ad : Nat → Nat} {x : VS} {mm : Nat} {mad : Nat → Nat} {M M1 : MS} {o : Nat} {og : Nat → Int64} {i fr1 lo1 fr2 lo2 mc9 ms9 cells slots : Nat} {F9 : VS → Prop} {b9 : Int32} {v9 : Int64} (hi : i + 6 ≤ L) (hL : L ≤ 3072) (hfr : fr1 ≤ 2000 ∧ lo1 ≤ 80000 ∧ fr2 ≤ 2000 ∧ lo2 ≤ 80000) (hrm : cells + mc9 ≤ 601024 ∧ slots + ms9 ≤ 7293034) (hcod : M1.cod = 0) (hv : v9 = b9.toInt64) (hW : ∀ sz : Nat, Met l ⟨"SeriesVaultLaw", "bulk", "(LSeriesVault;I[J)I"⟩ [Cond.codeWith ⟨"SeriesVaultLaw", "bulk", "(LSeriesVault;I[J)I"⟩ method_10_code 4 (some FieldType.int) [(0, 9, 12, 29), (0, 9, 15, 35)]] { frames := fr1, cells := mc9, slots := ms9, locals := lo1 } (pC D dA [.ref h, .int (xs (i + 1)), .ref o] (([(o, .inl (dA 2, 1, .inr (.inl og)))] : va_W) ++ (VW dA h ad x)) sz) (va_Qi (fun (r9 : Int32) (u9 : VS) => r9 = 0 ∧ F9 u9) (fun (u9 : VS) t9 => bW D (va_A (([(o, .inl (dA 2, 1, .inr (.inl og)))] : va_W) ++ (VW dA h ad x)) sz) (([(o, .inl (dA 2, 1, .inr (.inl (va_up og 0 v9))))] : va_W) ++ (VW dA h ad u9)) t9) (va_A (([(o, .inl (dA 2, 1, .inr (.inl og)))] : va_W) ++ (VW dA h ad x)) sz)) mc9 ms9 (va_A (([(o, .inl (dA 2, 1, .inr (.inl og)))] : va_W) ++ (VW dA h ad x)) sz)) (hM : ∀ sz : Nat, Met l ⟨"SeriesVaultModel", "bulk", "(I)I"⟩ [Cond.code ⟨"SeriesVaultModel", "bulk", "(I)I"⟩ prog_14_method_36_code 7 (some FieldType.int)] { frames := fr2, cells := 0, slots := 0, locals := lo2 } (pC D dA [.ref mm, .int (xs (i + 1))] (MW dA mm mad M) sz) (va_Qi (fun (r9 : Int32) (u9 : Unit) => r9 = b9) (fun (u9 : Unit) t9 => bW D (va_A (MW dA mm mad M) sz) (MW dA mm mad M1) t9) (va_A (MW dA mm mad M) sz)) 0 0 (va_A (MW dA mm mad M) sz)) (hP : va_P D vwCl (MW dA mm mad M ++ (([(o, .inl (dA 2, 1, .inr (.inl og)))] : va_W) ++ (VW dA h ad x))) H) (hD : va_D A (MW dA mm mad M ++ (([(o, .inl (dA 2, 1, .inr (.inl og)))] : va_W) ++ (VW dA h ad x)))) (hS : va_S A s.heap H locs) (hl : lv_has ls 8 [(4, .int (nI i)), (3, .ref o), (2, .ref mm), (1, .ref h), (0, .ref b)]) (cont : ∀ (u : VS) (H1 : Heap) (locs1 : List Loc) (ls1 : Array Slot), F9 u → va_P D vwCl (MW dA mm mad M1 ++ (([(o, .inl (dA 2, 1, .inr (.inl (va_up og 0 v9))))] : va_W) ++ (VW dA h ad u))) H1 → va_D A (MW dA mm mad M1 ++ (([(o, .inl (dA 2, 1, .inr (.inl (va_up og 0 v9))))] : va_W) ++ (VW dA h ad u))) → va_S A s.heap H1 locs1 → lv_has ls1 8 [(4, .int (nI (i + 6))), (3, .ref o), (2, .ref mm), (1, .ref h), (0, .ref b)] → W p l e room_1 s m #[Value.ref b] below meth c H1 locs1 (cells + mc9 + 0 + 0) (slots + ms9 + 0 + 0) (lw_Z below #[Value.ref b] s) (F0 m 23 ls1 [])) : W p l e room_1 s m #[Value.ref b] below meth c H locs cells slots (lw_Z below #[Value.ref b] s) (F0 m 656 ls []) := by
  have hC0 := hC
  obtain ⟨hx, hb, hr, hml, hown, hlk, hE, hK, hA, hN, hZ, hT, hX, hbl, hbA, hnew, htr⟩ := hC
  refine lv_aload_n hx hb d_SeriesVaultLaw_law_656 rfl (lv_at hl 3 rfl) ?_
  refine lv_aload_n hx hb d_SeriesVaultLaw_law_657 rfl (lv_at hl 4 rfl) ?_
  refine lv_iload hx hb d_SeriesVaultLaw_law_658 (lv_at hl 0 rfl) ?_
  refine lv_iconst (v := 1) hx hb d_SeriesVaultLaw_law_660 (by decide) ?_
  refine lv_iadd hx hb d_SeriesVaultLaw_law_661 (tpi (y := nI (i + 1)) (nI_add (i) (1)) ?_)
  refine sldN hx hb hX hbl hbA hS (show i + 1 < L by omega) (show L ≤ 65536 by omega) d_SeriesVaultLaw_law_662 ?_
  refine lv_aload_n hx hb d_SeriesVaultLaw_law_663 rfl (lv_at hl 1 rfl) ?_
  have hPc : va_P D vwCl (([(o, .inl (dA 2, 1, .inr (.inl og)))] : va_W) ++ (VW dA h ad x)) H := spP (wr := MW dA mm mad M) hP
  have hDc : va_D A (([(o, .inl (dA 2, 1, .inr (.inl og)))] : va_W) ++ (VW dA h ad x)) := spD (wr := MW dA mm mad M) hD
  refine jkI (wr := MW dA mm mad M) (rnW (As := [.ref h, .int (xs (i + 1)), .ref o]) (rest := []) hx hb hml hown hE hK (hN _ _ hS) hPc hDc (hW H.size) w1848 w1847 w1849 w1793 rfl rfl ⟨⟨by decide, by decide⟩, rfl⟩ ⟨(show fr1 + 1 ≤ 2048 by omega), (show 8 + (4 + 11) + lo1 ≤ 84000 by omega)⟩ rfl hl.1 rfl (Nat.le_of_ble_eq_true rfl) d_SeriesVaultLaw_law_664 ⟨(show cells + mc9 ≤ 601024 by omega), (show slots + ms9 ≤ 7293034 by omega)⟩) hP hD hS hA (fun k8 u8 H locs hp9 hP hD hS => ?_)
  obtain ⟨hp9, hf9⟩ := hp9
  replace hp9 : 0 = k8 := Eq.symm hp9
  subst hp9
  have hP : va_P D vwCl (MW dA mm mad M ++ (([(o, .inl (dA 2, 1, .inr (.inl (va_up og 0 v9))))] : va_W) ++ (VW dA h ad u8))) H := hP
  have hD : va_D A (MW dA mm mad M ++ (([(o, .inl (dA 2, 1, .inr (.inl (va_up og 0 v9))))] : va_W) ++ (VW dA h ad u8))) := hD
  refine lv_istore hx hb d_SeriesVaultLaw_law_667 hl (by decide) rfl (fun ls hl => ?_)
  have hl : lv_has ls 8 [(5, .int 0), (4, .int (nI i)), (3, .ref o), (2, .ref mm), (1, .ref h), (0, .ref b)] := hl
  refine lv_aload_n hx hb d_SeriesVaultLaw_law_669 rfl (lv_at hl 3 rfl) ?_
  refine lv_aload_n hx hb d_SeriesVaultLaw_law_670 rfl (lv_at hl 5 rfl) ?_
  refine lv_iload hx hb d_SeriesVaultLaw_law_671 (lv_at hl 1 rfl) ?_
  refine lv_iconst (v := 1) hx hb d_SeriesVaultLaw_law_673 (by decide) ?_
  refine lv_iadd hx hb d_SeriesVaultLaw_law_674 (tpi (y := nI (i + 1)) (nI_add (i) (1)) ?_)
  refine sldN hx hb hX hbl hbA hS (show i + 1 < L by omega) (show L ≤ 65536 by omega) d_SeriesVaultLaw_law_675 ?_
  have hP := pmP (show List.Perm (α := Nat × va_E) (MW dA mm mad M ++ (([(o, .inl (dA 2, 1, .inr (.inl (va_up og 0 v9))))] : va_W) ++ (VW dA h ad u8))) (([(o, .inl (dA 2, 1, .inr (.inl (va_up og 0 v9))))] : va_W) ++ (MW dA mm mad M ++ (VW dA h ad u8))) from List.perm_append_comm_assoc (MW dA mm mad M) (([(o, .inl (dA 2, 1, .inr (.inl (va_up og 0 v9))))] : va_W)) (VW dA h ad u8)) hP
  have hD := pmD (show List.Perm (α := Nat × va_E) (MW dA mm mad M ++ (([(o, .inl (dA 2, 1, .inr (.inl (va_up og 0 v9))))] : va_W) ++ (VW dA h ad u8))) (([(o, .inl (dA 2, 1, .inr (.inl (va_up og 0 v9))))] : va_W) ++ (MW dA mm mad M ++ (VW dA h ad u8))) from List.perm_append_comm_assoc (MW dA mm mad M) (([(o, .inl (dA 2, 1, .inr (.inl (va_up og 0 v9))))] : va_W)) (VW dA h ad u8)) hD
  have hP := pmP (show List.Perm (α := Nat × va_E) (([(o, .inl (dA 2, 1, .inr (.inl (va_up og 0 v9))))] : va_W) ++ (MW dA mm mad M ++ (VW dA h ad u8))) (([(o, .inl (dA 2, 1, .inr (.inl (va_up og 0 v9))))] : va_W) ++ (VW dA h ad u8 ++ (MW dA mm mad M))) from List.Perm.append_left (([(o, .inl (dA 2, 1, .inr (.inl (va_up og 0 v9))))] : va_W)) (List.perm_append_comm)) hP
  have hD := pmD (show List.Perm (α := Nat × va_E) (([(o, .inl (dA 2, 1, .inr (.inl (va_up og 0 v9))))] : va_W) ++ (MW dA mm mad M ++ (VW dA h ad u8))) (([(o, .inl (dA 2, 1, .inr (.inl (va_up og 0 v9))))] : va_W) ++ (VW dA h ad u8 ++ (MW dA mm mad M))) from List.Perm.append_left (([(o, .inl (dA 2, 1, .inr (.inl (va_up og 0 v9))))] : va_W)) (List.perm_append_comm)) hD
  have hPc : va_P D vwCl (MW dA mm mad M) H := spP (wr := ([(o, .inl (dA 2, 1, .inr (.inl (va_up og 0 v9))))] : va_W) ++ (VW dA h ad u8)) hP
  have hDc : va_D A (MW dA mm mad M) := spD (wr := ([(o, .inl (dA 2, 1, .inr (.inl (va_up og 0 v9))))] : va_W) ++ (VW dA h ad u8)) hD
  refine jkI (wr := ([(o, .inl (dA 2, 1, .inr (.inl (va_up og 0 v9))))] : va_W) ++ (VW dA h ad u8)) (rnV (As := [.int (xs (i + 1))]) (rest := []) hx hb hml hown hE hK (hN _ _ hS) hPc hDc (hM H.size) (q0 := 0) rfl rfl w1851 w1850 w1852 w1853 w328 rfl rfl ⟨⟨by decide, by decide⟩, rfl⟩ ⟨(show fr2 + 1 ≤ 2048 by omega), (show 8 + (7 + 11) + lo2 ≤ 84000 by omega)⟩ rfl hl.1 rfl (Nat.le_of_ble_eq_true rfl) d_SeriesVaultLaw_law_676 ⟨(show cells + mc9 + 0 ≤ 601024 by omega), (show slots + ms9 + 0 ≤ 7293034 by omega)⟩) hP hD hS hA (fun r7 u7 H locs hp9 hP hD hS => ?_)
  replace hp9 : b9 = r7 := Eq.symm hp9
  subst hp9
  have hP : va_P D vwCl (([(o, .inl (dA 2, 1, .inr (.inl (va_up og 0 v9))))] : va_W) ++ (VW dA h ad u8 ++ (MW dA mm mad M1))) H := hP
  have hD : va_D A (([(o, .inl (dA 2, 1, .inr (.inl (va_up og 0 v9))))] : va_W) ++ (VW dA h ad u8 ++ (MW dA mm mad M1))) := hD
  refine lv_istore hx hb d_SeriesVaultLaw_law_679 hl (by decide) rfl (fun ls hl => ?_)
  have hl : lv_has ls 8 [(6, .int b9), (5, .int 0), (4, .int (nI i)), (3, .ref o), (2, .ref mm), (1, .ref h), (0, .ref b)] := hl
  refine lv_aload_n hx hb d_SeriesVaultLaw_law_681 rfl (lv_at hl 4 rfl) ?_
  have hPc : va_P D vwCl (MW dA mm mad M1) H := spP (wr := ([(o, .inl (dA 2, 1, .inr (.inl (va_up og 0 v9))))] : va_W) ++ (VW dA h ad u8)) hP
  have hDc : va_D A (MW dA mm mad M1) := spD (wr := ([(o, .inl (dA 2, 1, .inr (.inl (va_up og 0 v9))))] : va_W) ++ (VW dA h ad u8)) hD
  refine jkI (wr := ([(o, .inl (dA 2, 1, .inr (.inl (va_up og 0 v9))))] : va_W) ++ (VW dA h ad u8)) (rnV (As := []) (rest := []) hx hb hml hown hE hK (hN _ _ hS) hPc hDc (k_thrown l D dA H.size mm mad M1) (q0 := 0) rfl rfl w1801 w1800 w1802 w1803 w328 rfl rfl ⟨⟨by decide, by decide⟩, rfl⟩ ⟨(show 1 + 1 ≤ 2048 by omega), (show 8 + (1 + 11) + 0 ≤ 84000 by omega)⟩ rfl hl.1 rfl (Nat.le_of_ble_eq_true rfl) d_SeriesVaultLaw_law_682 ⟨(show cells + mc9 + 0 ≤ 601024 by omega), (show slots + ms9 + 0 ≤ 7293034 by omega)⟩) hP hD hS hA (fun r7 u7 H locs hp9 hP hD hS => ?_)
  replace hp9 : 0 = r7 := Eq.symm (hp9.trans hcod)
  subst hp9
  have hP : va_P D vwCl (([(o, .inl (dA 2, 1, .inr (.inl (va_up og 0 v9))))] : va_W) ++ (VW dA h ad u8 ++ (MW dA mm mad M1))) H := hP
  have hD : va_D A (([(o, .inl (dA 2, 1, .inr (.inl (va_up og 0 v9))))] : va_W) ++ (VW dA h ad u8 ++ (MW dA mm mad M1))) := hD
  refine lv_iload hx hb d_SeriesVaultLaw_law_685 (lv_at hl 1 rfl) ?_
  refine lv_icmp_eq hx hb d_SeriesVaultLaw_law_687 (tgt := 692) rfl (fun _ => ?_) (fun h9 => absurd rfl h9)
  refine lv_iload hx hb d_SeriesVaultLaw_law_692 (lv_at hl 1 rfl) ?_
  refine lv_if_ne hx hb d_SeriesVaultLaw_law_694 (tgt := 709) rfl (fun h9 => absurd (by decide) h9) (fun _ => ?_)
  refine lv_aload_n hx hb d_SeriesVaultLaw_law_697 rfl (lv_at hl 3 rfl) ?_
  refine lv_iconst (v := 0) hx hb d_SeriesVaultLaw_law_698 (by decide) ?_
  refine nlld (f := (va_up og 0 v9)) (n := 1) hx hb hK hP (0) 2 rfl rfl (0) (by decide) (by decide) d_SeriesVaultLaw_law_699 ?_
  refine tpl (y := v9) (va_up_self _ _ _) ?_
  refine lv_iload hx hb d_SeriesVaultLaw_law_700 (lv_at hl 0 rfl) ?_
  refine lv_i2l hx hb d_SeriesVaultLaw_law_702 rfl ?_
  refine W.lcmp hx hb d_SeriesVaultLaw_law_703 ?_
  refine lv_if_eq hx hb d_SeriesVaultLaw_law_704 (tgt := 709) rfl (fun _ => ?_) (fun h9 => absurd ((lg_cmp_eq _ _).mpr hv) h9)
  refine lv_goto hx hb d_SeriesVaultLaw_law_709 (tgt := 1770) rfl ?_
  refine lv_iinc (k := 2) (v := nI (i + 6)) hx hb d_SeriesVaultLaw_law_1770 hl rfl (iincN (i) 6 6 (by decide)) (by decide) rfl (fun ls hl => ?_)
  have hl : lv_has ls 8 [(4, .int (nI (i + 6))), (6, .int b9), (5, .int 0), (3, .ref o), (2, .ref mm), (1, .ref h), (0, .ref b)] := hl
  refine lv_goto hx hb d_SeriesVaultLaw_law_1773 (tgt := 23) rfl ?_
  have hP := pmP (show List.Perm (α := Nat × va_E) (([(o, .inl (dA 2, 1, .inr (.inl (va_up og 0 v9))))] : va_W) ++ (VW dA h ad u8 ++ (MW dA mm mad M1))) (MW dA mm mad M1 ++ (([(o, .inl (dA 2, 1, .inr (.inl (va_up og 0 v9))))] : va_W) ++ (VW dA h ad u8))) from (List.Perm.append_left (([(o, .inl (dA 2, 1, .inr (.inl (va_up og 0 v9))))] : va_W)) (List.perm_append_comm)).trans (List.perm_append_comm_assoc (([(o, .inl (dA 2, 1, .inr (.inl (va_up og 0 v9))))] : va_W)) (MW dA mm mad M1) (VW dA h ad u8))) hP
  have hD := pmD (show List.Perm (α := Nat × va_E) (([(o, .inl (dA 2, 1, .inr (.inl (va_up og 0 v9))))] : va_W) ++ (VW dA h ad u8 ++ (MW dA mm mad M1))) (MW dA mm mad M1 ++ (([(o, .inl (dA 2, 1, .inr (.inl (va_up og 0 v9))))] : va_W) ++ (VW dA h ad u8))) from (List.Perm.append_left (([(o, .inl (dA 2, 1, .inr (.inl (va_up og 0 v9))))] : va_W)) (List.perm_append_comm)).trans (List.perm_append_comm_assoc (([(o, .inl (dA 2, 1, .inr (.inl (va_up og 0 v9))))] : va_W)) (MW dA mm mad M1) (VW dA h ad u8))) hD
  have hP : va_P D vwCl (MW dA mm mad M1 ++ (([(o, .inl (dA 2, 1, .inr (.inl (va_up og 0 v9))))] : va_W) ++ (VW dA h ad u8))) H := hP
  have hD : va_D A (MW dA mm mad M1 ++ (([(o, .inl (dA 2, 1, .inr (.inl (va_up og 0 v9))))] : va_W) ++ (VW dA h ad u8))) := hD
  have hl := lv_sub (l' := [(4, .int (nI (i + 6))), (3, .ref o), (2, .ref mm), (1, .ref h), (0, .ref b)]) hl [0, 3, 4, 5, 6] rfl
  exact cont u8 H locs ls hf9 hP hD hS hl
set_option maxHeartbeats 4000000 in
set_option maxRecDepth 100000 in
theorem l9_7_x {p : Program} {e : Env} {s : State} {m : MethodId} {below : List Frame} {meth : Method} {c : Code} (l : Launch) {b L : Nat} {xs : Nat → Int32} {D : va_G} {dA : Nat → ClassId} {e0 : Nat} {A : Nat → Prop} {H : Heap} {locs : List Loc} {ls : Array Slot} (hC : lS p l s m meth c b L xs D dA e0 A) {h : Nat} {ad : Nat → Nat} {x : VS} {mm : Nat} {mad : Nat → Nat} {M M1 : MS} {o : Nat} {og : Nat → Int64} {i fr1 lo1 fr2 lo2 mc9 ms9 cells slots : Nat} {F9 : VS → Prop} {b9 : Int32} {k9 : Nat} (hi : i + 6 ≤ L) (hL : L ≤ 3072) (hfr : fr1 ≤ 2000 ∧ lo1 ≤ 80000 ∧ fr2 ≤ 2000 ∧ lo2 ≤ 80000) (hrm : cells + mc9 ≤ 601024 ∧ slots + ms9 ≤ 7293034) (hcod : M1.cod = nI k9) (hk9 : ¬ nI k9 = 0) (hW : ∀ sz : Nat, Met l ⟨"SeriesVaultLaw", "bulk", "(LSeriesVault;I[J)I"⟩ [Cond.codeWith ⟨"SeriesVaultLaw", "bulk", "(LSeriesVault;I[J)I"⟩ method_10_code 4 (some FieldType.int) [(0, 9, 12, 29), (0, 9, 15, 35)]] { frames := fr1, cells := mc9, slots := ms9, locals := lo1 } (pC D dA [.ref h, .int (xs (i + 1)), .ref o] (([(o, .inl (dA 2, 1, .inr (.inl og)))] : va_W) ++ (VW dA h ad x)) sz) (va_Qi (fun (r9 : Int32) (u9 : VS) => r9 = nI k9 ∧ F9 u9) (fun (u9 : VS) t9 => bW D (va_A (([(o, .inl (dA 2, 1, .inr (.inl og)))] : va_W) ++ (VW dA h ad x)) sz) (([(o, .inl (dA 2, 1, .inr (.inl (og))))] : va_W) ++ (VW dA h ad u9)) t9) (va_A (([(o, .inl (dA 2, 1, .inr (.inl og)))] : va_W) ++ (VW dA h ad x)) sz)) mc9 ms9 (va_A (([(o, .inl (dA 2, 1, .inr (.inl og)))] : va_W) ++ (VW dA h ad x)) sz)) (hM : ∀ sz : Nat, Met l ⟨"SeriesVaultModel", "bulk", "(I)I"⟩ [Cond.code ⟨"SeriesVaultModel", "bulk", "(I)I"⟩ prog_14_method_36_code 7 (some FieldType.int)] { frames := fr2, cells := 0, slots := 0, locals := lo2 } (pC D dA [.ref mm, .int (xs (i + 1))] (MW dA mm mad M) sz) (va_Qi (fun (r9 : Int32) (u9 : Unit) => r9 = b9) (fun (u9 : Unit) t9 => bW D (va_A (MW dA mm mad M) sz) (MW dA mm mad M1) t9) (va_A (MW dA mm mad M) sz)) 0 0 (va_A (MW dA mm mad M) sz)) (hP : va_P D vwCl (MW dA mm mad M ++ (([(o, .inl (dA 2, 1, .inr (.inl og)))] : va_W) ++ (VW dA h ad x))) H) (hD : va_D A (MW dA mm mad M ++ (([(o, .inl (dA 2, 1, .inr (.inl og)))] : va_W) ++ (VW dA h ad x)))) (hS : va_S A s.heap H locs) (hl : lv_has ls 8 [(4, .int (nI i)), (3, .ref o), (2, .ref mm), (1, .ref h), (0, .ref b)]) (cont : ∀ (u : VS) (H1 : Heap) (locs1 : List Loc) (ls1 : Array Slot), F9 u → va_P D vwCl (MW dA mm mad M1 ++ (([(o, .inl (dA 2, 1, .inr (.inl og)))] : va_W) ++ (VW dA h ad u))) H1 → va_D A (MW dA mm mad M1 ++ (([(o, .inl (dA 2, 1, .inr (.inl og)))] : va_W) ++ (VW dA h ad u))) → va_S A s.heap H1 locs1 → lv_has ls1 8 [(4, .int (nI (i + 6))), (3, .ref o), (2, .ref mm), (1, .ref h), (0, .ref b)] → W p l e room_1 s m #[Value.ref b] below meth c H1 locs1 (cells + mc9 + 0 + 0) (slots + ms9 + 0 + 0) (lw_Z below #[Value.ref b] s) (F0 m 23 ls1 [])) : W p l e room_1 s m #[Value.ref b] below meth c H locs cells slots (lw_Z below #[Value.ref b] s) (F0 m 656 ls []) := by
  have hC0 := hC
  obtain ⟨hx, hb, hr, hml, hown, hlk, hE, hK, hA, hN, hZ, hT, hX, hbl, hbA, hnew, htr⟩ := hC
  refine lv_aload_n hx hb d_SeriesVaultLaw_law_656 rfl (lv_at hl 3 rfl) ?_
  refine lv_aload_n hx hb d_SeriesVaultLaw_law_657 rfl (lv_at hl 4 rfl) ?_
  refine lv_iload hx hb d_SeriesVaultLaw_law_658 (lv_at hl 0 rfl) ?_
  refine lv_iconst (v := 1) hx hb d_SeriesVaultLaw_law_660 (by decide) ?_
  refine lv_iadd hx hb d_SeriesVaultLaw_law_661 (tpi (y := nI (i + 1)) (nI_add (i) (1)) ?_)
  refine sldN hx hb hX hbl hbA hS (show i + 1 < L by omega) (show L ≤ 65536 by omega) d_SeriesVaultLaw_law_662 ?_
  refine lv_aload_n hx hb d_SeriesVaultLaw_law_663 rfl (lv_at hl 1 rfl) ?_
  have hPc : va_P D vwCl (([(o, .inl (dA 2, 1, .inr (.inl og)))] : va_W) ++ (VW dA h ad x)) H := spP (wr := MW dA mm mad M) hP
  have hDc : va_D A (([(o, .inl (dA 2, 1, .inr (.inl og)))] : va_W) ++ (VW dA h ad x)) := spD (wr := MW dA mm mad M) hD
  refine jkI (wr := MW dA mm mad M) (rnW (As := [.ref h, .int (xs (i + 1)), .ref o]) (rest := []) hx hb hml hown hE hK (hN _ _ hS) hPc hDc (hW H.size) w1848 w1847 w1849 w1793 rfl rfl ⟨⟨by decide, by decide⟩, rfl⟩ ⟨(show fr1 + 1 ≤ 2048 by omega), (show 8 + (4 + 11) + lo1 ≤ 84000 by omega)⟩ rfl hl.1 rfl (Nat.le_of_ble_eq_true rfl) d_SeriesVaultLaw_law_664 ⟨(show cells + mc9 ≤ 601024 by omega), (show slots + ms9 ≤ 7293034 by omega)⟩) hP hD hS hA (fun k8 u8 H locs hp9 hP hD hS => ?_)
  obtain ⟨hp9, hf9⟩ := hp9
  replace hp9 : nI k9 = k8 := Eq.symm hp9
  subst hp9
  have hP : va_P D vwCl (MW dA mm mad M ++ (([(o, .inl (dA 2, 1, .inr (.inl og)))] : va_W) ++ (VW dA h ad u8))) H := hP
  have hD : va_D A (MW dA mm mad M ++ (([(o, .inl (dA 2, 1, .inr (.inl og)))] : va_W) ++ (VW dA h ad u8))) := hD
  refine lv_istore hx hb d_SeriesVaultLaw_law_667 hl (by decide) rfl (fun ls hl => ?_)
  have hl : lv_has ls 8 [(5, .int (nI k9)), (4, .int (nI i)), (3, .ref o), (2, .ref mm), (1, .ref h), (0, .ref b)] := hl
  refine lv_aload_n hx hb d_SeriesVaultLaw_law_669 rfl (lv_at hl 3 rfl) ?_
  refine lv_aload_n hx hb d_SeriesVaultLaw_law_670 rfl (lv_at hl 5 rfl) ?_
  refine lv_iload hx hb d_SeriesVaultLaw_law_671 (lv_at hl 1 rfl) ?_
  refine lv_iconst (v := 1) hx hb d_SeriesVaultLaw_law_673 (by decide) ?_
  refine lv_iadd hx hb d_SeriesVaultLaw_law_674 (tpi (y := nI (i + 1)) (nI_add (i) (1)) ?_)
  refine sldN hx hb hX hbl hbA hS (show i + 1 < L by omega) (show L ≤ 65536 by omega) d_SeriesVaultLaw_law_675 ?_
  have hP := pmP (show List.Perm (α := Nat × va_E) (MW dA mm mad M ++ (([(o, .inl (dA 2, 1, .inr (.inl og)))] : va_W) ++ (VW dA h ad u8))) (([(o, .inl (dA 2, 1, .inr (.inl og)))] : va_W) ++ (MW dA mm mad M ++ (VW dA h ad u8))) from List.perm_append_comm_assoc (MW dA mm mad M) (([(o, .inl (dA 2, 1, .inr (.inl og)))] : va_W)) (VW dA h ad u8)) hP
  have hD := pmD (show List.Perm (α := Nat × va_E) (MW dA mm mad M ++ (([(o, .inl (dA 2, 1, .inr (.inl og)))] : va_W) ++ (VW dA h ad u8))) (([(o, .inl (dA 2, 1, .inr (.inl og)))] : va_W) ++ (MW dA mm mad M ++ (VW dA h ad u8))) from List.perm_append_comm_assoc (MW dA mm mad M) (([(o, .inl (dA 2, 1, .inr (.inl og)))] : va_W)) (VW dA h ad u8)) hD
  have hP := pmP (show List.Perm (α := Nat × va_E) (([(o, .inl (dA 2, 1, .inr (.inl og)))] : va_W) ++ (MW dA mm mad M ++ (VW dA h ad u8))) (([(o, .inl (dA 2, 1, .inr (.inl og)))] : va_W) ++ (VW dA h ad u8 ++ (MW dA mm mad M))) from List.Perm.append_left (([(o, .inl (dA 2, 1, .inr (.inl og)))] : va_W)) (List.perm_append_comm)) hP
  have hD := pmD (show List.Perm (α := Nat × va_E) (([(o, .inl (dA 2, 1, .inr (.inl og)))] : va_W) ++ (MW dA mm mad M ++ (VW dA h ad u8))) (([(o, .inl (dA 2, 1, .inr (.inl og)))] : va_W) ++ (VW dA h ad u8 ++ (MW dA mm mad M))) from List.Perm.append_left (([(o, .inl (dA 2, 1, .inr (.inl og)))] : va_W)) (List.perm_append_comm)) hD
  have hPc : va_P D vwCl (MW dA mm mad M) H := spP (wr := ([(o, .inl (dA 2, 1, .inr (.inl og)))] : va_W) ++ (VW dA h ad u8)) hP
  have hDc : va_D A (MW dA mm mad M) := spD (wr := ([(o, .inl (dA 2, 1, .inr (.inl og)))] : va_W) ++ (VW dA h ad u8)) hD
  refine jkI (wr := ([(o, .inl (dA 2, 1, .inr (.inl og)))] : va_W) ++ (VW dA h ad u8)) (rnV (As := [.int (xs (i + 1))]) (rest := []) hx hb hml hown hE hK (hN _ _ hS) hPc hDc (hM H.size) (q0 := 0) rfl rfl w1851 w1850 w1852 w1853 w328 rfl rfl ⟨⟨by decide, by decide⟩, rfl⟩ ⟨(show fr2 + 1 ≤ 2048 by omega), (show 8 + (7 + 11) + lo2 ≤ 84000 by omega)⟩ rfl hl.1 rfl (Nat.le_of_ble_eq_true rfl) d_SeriesVaultLaw_law_676 ⟨(show cells + mc9 + 0 ≤ 601024 by omega), (show slots + ms9 + 0 ≤ 7293034 by omega)⟩) hP hD hS hA (fun r7 u7 H locs hp9 hP hD hS => ?_)
  replace hp9 : b9 = r7 := Eq.symm hp9
  subst hp9
  have hP : va_P D vwCl (([(o, .inl (dA 2, 1, .inr (.inl og)))] : va_W) ++ (VW dA h ad u8 ++ (MW dA mm mad M1))) H := hP
  have hD : va_D A (([(o, .inl (dA 2, 1, .inr (.inl og)))] : va_W) ++ (VW dA h ad u8 ++ (MW dA mm mad M1))) := hD
  refine lv_istore hx hb d_SeriesVaultLaw_law_679 hl (by decide) rfl (fun ls hl => ?_)
  have hl : lv_has ls 8 [(6, .int b9), (5, .int (nI k9)), (4, .int (nI i)), (3, .ref o), (2, .ref mm), (1, .ref h), (0, .ref b)] := hl
  refine lv_aload_n hx hb d_SeriesVaultLaw_law_681 rfl (lv_at hl 4 rfl) ?_
  have hPc : va_P D vwCl (MW dA mm mad M1) H := spP (wr := ([(o, .inl (dA 2, 1, .inr (.inl og)))] : va_W) ++ (VW dA h ad u8)) hP
  have hDc : va_D A (MW dA mm mad M1) := spD (wr := ([(o, .inl (dA 2, 1, .inr (.inl og)))] : va_W) ++ (VW dA h ad u8)) hD
  refine jkI (wr := ([(o, .inl (dA 2, 1, .inr (.inl og)))] : va_W) ++ (VW dA h ad u8)) (rnV (As := []) (rest := []) hx hb hml hown hE hK (hN _ _ hS) hPc hDc (k_thrown l D dA H.size mm mad M1) (q0 := 0) rfl rfl w1801 w1800 w1802 w1803 w328 rfl rfl ⟨⟨by decide, by decide⟩, rfl⟩ ⟨(show 1 + 1 ≤ 2048 by omega), (show 8 + (1 + 11) + 0 ≤ 84000 by omega)⟩ rfl hl.1 rfl (Nat.le_of_ble_eq_true rfl) d_SeriesVaultLaw_law_682 ⟨(show cells + mc9 + 0 ≤ 601024 by omega), (show slots + ms9 + 0 ≤ 7293034 by omega)⟩) hP hD hS hA (fun r7 u7 H locs hp9 hP hD hS => ?_)
  replace hp9 : nI k9 = r7 := Eq.symm (hp9.trans hcod)
  subst hp9
  have hP : va_P D vwCl (([(o, .inl (dA 2, 1, .inr (.inl og)))] : va_W) ++ (VW dA h ad u8 ++ (MW dA mm mad M1))) H := hP
  have hD : va_D A (([(o, .inl (dA 2, 1, .inr (.inl og)))] : va_W) ++ (VW dA h ad u8 ++ (MW dA mm mad M1))) := hD
  refine lv_iload hx hb d_SeriesVaultLaw_law_685 (lv_at hl 1 rfl) ?_
  refine lv_icmp_eq hx hb d_SeriesVaultLaw_law_687 (tgt := 692) rfl (fun _ => ?_) (fun h9 => absurd rfl h9)
  refine lv_iload hx hb d_SeriesVaultLaw_law_692 (lv_at hl 1 rfl) ?_
  refine lv_if_ne hx hb d_SeriesVaultLaw_law_694 (tgt := 709) rfl (fun _ => ?_) (fun h9 => absurd h9 hk9)
  refine lv_goto hx hb d_SeriesVaultLaw_law_709 (tgt := 1770) rfl ?_
  refine lv_iinc (k := 2) (v := nI (i + 6)) hx hb d_SeriesVaultLaw_law_1770 hl rfl (iincN (i) 6 6 (by decide)) (by decide) rfl (fun ls hl => ?_)
  have hl : lv_has ls 8 [(4, .int (nI (i + 6))), (6, .int b9), (5, .int (nI k9)), (3, .ref o), (2, .ref mm), (1, .ref h), (0, .ref b)] := hl
  refine lv_goto hx hb d_SeriesVaultLaw_law_1773 (tgt := 23) rfl ?_
  have hP := pmP (show List.Perm (α := Nat × va_E) (([(o, .inl (dA 2, 1, .inr (.inl og)))] : va_W) ++ (VW dA h ad u8 ++ (MW dA mm mad M1))) (MW dA mm mad M1 ++ (([(o, .inl (dA 2, 1, .inr (.inl og)))] : va_W) ++ (VW dA h ad u8))) from (List.Perm.append_left (([(o, .inl (dA 2, 1, .inr (.inl og)))] : va_W)) (List.perm_append_comm)).trans (List.perm_append_comm_assoc (([(o, .inl (dA 2, 1, .inr (.inl og)))] : va_W)) (MW dA mm mad M1) (VW dA h ad u8))) hP
  have hD := pmD (show List.Perm (α := Nat × va_E) (([(o, .inl (dA 2, 1, .inr (.inl og)))] : va_W) ++ (VW dA h ad u8 ++ (MW dA mm mad M1))) (MW dA mm mad M1 ++ (([(o, .inl (dA 2, 1, .inr (.inl og)))] : va_W) ++ (VW dA h ad u8))) from (List.Perm.append_left (([(o, .inl (dA 2, 1, .inr (.inl og)))] : va_W)) (List.perm_append_comm)).trans (List.perm_append_comm_assoc (([(o, .inl (dA 2, 1, .inr (.inl og)))] : va_W)) (MW dA mm mad M1) (VW dA h ad u8))) hD
  have hP : va_P D vwCl (MW dA mm mad M1 ++ (([(o, .inl (dA 2, 1, .inr (.inl og)))] : va_W) ++ (VW dA h ad u8))) H := hP
  have hD : va_D A (MW dA mm mad M1 ++ (([(o, .inl (dA 2, 1, .inr (.inl og)))] : va_W) ++ (VW dA h ad u8))) := hD
  have hl := lv_sub (l' := [(4, .int (nI (i + 6))), (3, .ref o), (2, .ref mm), (1, .ref h), (0, .ref b)]) hl [0, 3, 4, 5, 6] rfl
  exact cont u8 H locs ls hf9 hP hD hS hl
theorem d_SeriesVaultLaw_law_712 : decode code 712 = .ok (.aload_n 1, 1) := by decide +kernel
theorem d_SeriesVaultLaw_law_713 : decode code 713 = .ok (.aload_n 0, 1) := by decide +kernel
theorem d_SeriesVaultLaw_law_714 : decode code 714 = .ok (.iload 4, 2) := by decide +kernel
theorem d_SeriesVaultLaw_law_716 : decode code 716 = .ok (.iconst 1, 1) := by decide +kernel
theorem d_SeriesVaultLaw_law_717 : decode code 717 = .ok (.iadd, 1) := by decide +kernel
theorem d_SeriesVaultLaw_law_718 : decode code 718 = .ok (.iaload, 1) := by decide +kernel
theorem d_SeriesVaultLaw_law_719 : decode code 719 = .ok (.aload_n 0, 1) := by decide +kernel
theorem d_SeriesVaultLaw_law_720 : decode code 720 = .ok (.iload 4, 2) := by decide +kernel
theorem d_SeriesVaultLaw_law_722 : decode code 722 = .ok (.iconst 2, 1) := by decide +kernel
theorem d_SeriesVaultLaw_law_723 : decode code 723 = .ok (.iadd, 1) := by decide +kernel
theorem d_SeriesVaultLaw_law_724 : decode code 724 = .ok (.iaload, 1) := by decide +kernel
theorem d_SeriesVaultLaw_law_725 : decode code 725 = .ok (.i2l, 1) := by decide +kernel
theorem d_SeriesVaultLaw_law_726 : decode code 726 = .ok (.bipush 32, 2) := by decide +kernel
theorem d_SeriesVaultLaw_law_728 : decode code 728 = .ok (.lshl, 1) := by decide +kernel
theorem d_SeriesVaultLaw_law_729 : decode code 729 = .ok (.aload_n 0, 1) := by decide +kernel
theorem d_SeriesVaultLaw_law_730 : decode code 730 = .ok (.iload 4, 2) := by decide +kernel
theorem d_SeriesVaultLaw_law_732 : decode code 732 = .ok (.iconst 3, 1) := by decide +kernel
theorem d_SeriesVaultLaw_law_733 : decode code 733 = .ok (.iadd, 1) := by decide +kernel
theorem d_SeriesVaultLaw_law_734 : decode code 734 = .ok (.iaload, 1) := by decide +kernel
theorem d_SeriesVaultLaw_law_735 : decode code 735 = .ok (.i2l, 1) := by decide +kernel
theorem d_SeriesVaultLaw_law_736 : decode code 736 = .ok (.ldc2_w 133, 3) := by decide +kernel
theorem d_SeriesVaultLaw_law_739 : decode code 739 = .ok (.land, 1) := by decide +kernel
theorem d_SeriesVaultLaw_law_740 : decode code 740 = .ok (.lor, 1) := by decide +kernel
theorem d_SeriesVaultLaw_law_741 : decode code 741 = .ok (.aload_n 0, 1) := by decide +kernel
theorem d_SeriesVaultLaw_law_742 : decode code 742 = .ok (.iload 4, 2) := by decide +kernel
theorem d_SeriesVaultLaw_law_744 : decode code 744 = .ok (.iconst 4, 1) := by decide +kernel
theorem d_SeriesVaultLaw_law_745 : decode code 745 = .ok (.iadd, 1) := by decide +kernel
theorem d_SeriesVaultLaw_law_746 : decode code 746 = .ok (.iaload, 1) := by decide +kernel
theorem d_SeriesVaultLaw_law_747 : decode code 747 = .ok (.i2l, 1) := by decide +kernel
theorem d_SeriesVaultLaw_law_748 : decode code 748 = .ok (.bipush 32, 2) := by decide +kernel
theorem d_SeriesVaultLaw_law_750 : decode code 750 = .ok (.lshl, 1) := by decide +kernel
theorem d_SeriesVaultLaw_law_751 : decode code 751 = .ok (.aload_n 0, 1) := by decide +kernel
theorem d_SeriesVaultLaw_law_752 : decode code 752 = .ok (.iload 4, 2) := by decide +kernel
theorem d_SeriesVaultLaw_law_754 : decode code 754 = .ok (.iconst 5, 1) := by decide +kernel
theorem d_SeriesVaultLaw_law_755 : decode code 755 = .ok (.iadd, 1) := by decide +kernel
theorem d_SeriesVaultLaw_law_756 : decode code 756 = .ok (.iaload, 1) := by decide +kernel
theorem d_SeriesVaultLaw_law_757 : decode code 757 = .ok (.i2l, 1) := by decide +kernel
theorem d_SeriesVaultLaw_law_758 : decode code 758 = .ok (.ldc2_w 133, 3) := by decide +kernel
theorem d_SeriesVaultLaw_law_761 : decode code 761 = .ok (.land, 1) := by decide +kernel
theorem d_SeriesVaultLaw_law_762 : decode code 762 = .ok (.lor, 1) := by decide +kernel
theorem d_SeriesVaultLaw_law_763 : decode code 763 = .ok (.aload_n 3, 1) := by decide +kernel
theorem d_SeriesVaultLaw_law_764 : decode code 764 = .ok (.invokestatic 142, 3) := by decide +kernel
theorem d_SeriesVaultLaw_law_767 : decode code 767 = .ok (.istore 5, 2) := by decide +kernel
theorem d_SeriesVaultLaw_law_769 : decode code 769 = .ok (.aload_n 2, 1) := by decide +kernel
theorem d_SeriesVaultLaw_law_770 : decode code 770 = .ok (.aload_n 0, 1) := by decide +kernel
theorem d_SeriesVaultLaw_law_771 : decode code 771 = .ok (.iload 4, 2) := by decide +kernel
theorem d_SeriesVaultLaw_law_773 : decode code 773 = .ok (.iconst 1, 1) := by decide +kernel
theorem d_SeriesVaultLaw_law_774 : decode code 774 = .ok (.iadd, 1) := by decide +kernel
theorem d_SeriesVaultLaw_law_775 : decode code 775 = .ok (.iaload, 1) := by decide +kernel
theorem d_SeriesVaultLaw_law_776 : decode code 776 = .ok (.aload_n 0, 1) := by decide +kernel
theorem d_SeriesVaultLaw_law_777 : decode code 777 = .ok (.iload 4, 2) := by decide +kernel
theorem d_SeriesVaultLaw_law_779 : decode code 779 = .ok (.iconst 2, 1) := by decide +kernel
theorem d_SeriesVaultLaw_law_780 : decode code 780 = .ok (.iadd, 1) := by decide +kernel
theorem d_SeriesVaultLaw_law_781 : decode code 781 = .ok (.iaload, 1) := by decide +kernel
theorem d_SeriesVaultLaw_law_782 : decode code 782 = .ok (.i2l, 1) := by decide +kernel
theorem d_SeriesVaultLaw_law_783 : decode code 783 = .ok (.bipush 32, 2) := by decide +kernel
theorem d_SeriesVaultLaw_law_785 : decode code 785 = .ok (.lshl, 1) := by decide +kernel
theorem d_SeriesVaultLaw_law_786 : decode code 786 = .ok (.aload_n 0, 1) := by decide +kernel
theorem d_SeriesVaultLaw_law_787 : decode code 787 = .ok (.iload 4, 2) := by decide +kernel
theorem d_SeriesVaultLaw_law_789 : decode code 789 = .ok (.iconst 3, 1) := by decide +kernel
theorem d_SeriesVaultLaw_law_790 : decode code 790 = .ok (.iadd, 1) := by decide +kernel
theorem d_SeriesVaultLaw_law_791 : decode code 791 = .ok (.iaload, 1) := by decide +kernel
theorem d_SeriesVaultLaw_law_792 : decode code 792 = .ok (.i2l, 1) := by decide +kernel
theorem d_SeriesVaultLaw_law_793 : decode code 793 = .ok (.ldc2_w 133, 3) := by decide +kernel
theorem d_SeriesVaultLaw_law_796 : decode code 796 = .ok (.land, 1) := by decide +kernel
theorem d_SeriesVaultLaw_law_797 : decode code 797 = .ok (.lor, 1) := by decide +kernel
theorem d_SeriesVaultLaw_law_798 : decode code 798 = .ok (.aload_n 0, 1) := by decide +kernel
theorem d_SeriesVaultLaw_law_799 : decode code 799 = .ok (.iload 4, 2) := by decide +kernel
theorem d_SeriesVaultLaw_law_801 : decode code 801 = .ok (.iconst 4, 1) := by decide +kernel
theorem d_SeriesVaultLaw_law_802 : decode code 802 = .ok (.iadd, 1) := by decide +kernel
theorem d_SeriesVaultLaw_law_803 : decode code 803 = .ok (.iaload, 1) := by decide +kernel
theorem d_SeriesVaultLaw_law_804 : decode code 804 = .ok (.i2l, 1) := by decide +kernel
theorem d_SeriesVaultLaw_law_805 : decode code 805 = .ok (.bipush 32, 2) := by decide +kernel
theorem d_SeriesVaultLaw_law_807 : decode code 807 = .ok (.lshl, 1) := by decide +kernel
theorem d_SeriesVaultLaw_law_808 : decode code 808 = .ok (.aload_n 0, 1) := by decide +kernel
theorem d_SeriesVaultLaw_law_809 : decode code 809 = .ok (.iload 4, 2) := by decide +kernel
theorem d_SeriesVaultLaw_law_811 : decode code 811 = .ok (.iconst 5, 1) := by decide +kernel
theorem d_SeriesVaultLaw_law_812 : decode code 812 = .ok (.iadd, 1) := by decide +kernel
theorem d_SeriesVaultLaw_law_813 : decode code 813 = .ok (.iaload, 1) := by decide +kernel
theorem d_SeriesVaultLaw_law_814 : decode code 814 = .ok (.i2l, 1) := by decide +kernel
theorem d_SeriesVaultLaw_law_815 : decode code 815 = .ok (.ldc2_w 133, 3) := by decide +kernel
theorem d_SeriesVaultLaw_law_818 : decode code 818 = .ok (.land, 1) := by decide +kernel
theorem d_SeriesVaultLaw_law_819 : decode code 819 = .ok (.lor, 1) := by decide +kernel
theorem d_SeriesVaultLaw_law_820 : decode code 820 = .ok (.invokevirtual 144, 3) := by decide +kernel
theorem d_SeriesVaultLaw_law_823 : decode code 823 = .ok (.istore 6, 2) := by decide +kernel
theorem d_SeriesVaultLaw_law_825 : decode code 825 = .ok (.aload_n 2, 1) := by decide +kernel
theorem d_SeriesVaultLaw_law_826 : decode code 826 = .ok (.invokevirtual 110, 3) := by decide +kernel
theorem d_SeriesVaultLaw_law_829 : decode code 829 = .ok (.iload 5, 2) := by decide +kernel
theorem d_SeriesVaultLaw_law_831 : decode code 831 = .ok (.if_icmp .eq 5, 3) := by decide +kernel
theorem d_SeriesVaultLaw_law_836 : decode code 836 = .ok (.iload 5, 2) := by decide +kernel
theorem d_SeriesVaultLaw_law_838 : decode code 838 = .ok (.ifCond .ne 15, 3) := by decide +kernel
theorem d_SeriesVaultLaw_law_841 : decode code 841 = .ok (.aload_n 3, 1) := by decide +kernel
theorem d_SeriesVaultLaw_law_842 : decode code 842 = .ok (.iconst 0, 1) := by decide +kernel
theorem d_SeriesVaultLaw_law_843 : decode code 843 = .ok (.laload, 1) := by decide +kernel
theorem d_SeriesVaultLaw_law_844 : decode code 844 = .ok (.iload 6, 2) := by decide +kernel
theorem d_SeriesVaultLaw_law_846 : decode code 846 = .ok (.i2l, 1) := by decide +kernel
theorem d_SeriesVaultLaw_law_847 : decode code 847 = .ok (.lcmp, 1) := by decide +kernel
theorem d_SeriesVaultLaw_law_848 : decode code 848 = .ok (.ifCond .eq 5, 3) := by decide +kernel
theorem d_SeriesVaultLaw_law_853 : decode code 853 = .ok (.goto 917, 3) := by decide +kernel
theorem w1854 : Cond.methodLink "SeriesVaultLaw" 142 ⟨"SeriesVaultLaw", "delete", "(LSeriesVault;IJJ[J)I"⟩ ∈ aW := aw_of (tb_5 (List.mem_of_getElem? (i := 174) rfl)) rfl
theorem w1855 : Cond.codeWith ⟨"SeriesVaultLaw", "delete", "(LSeriesVault;IJJ[J)I"⟩ method_11_code 8 (some FieldType.int) [(0, 13, 16, 29), (0, 13, 20, 35), (0, 13, 24, 19), (0, 13, 28, 13)] ∈ aW := aw_of (tb_5 (List.mem_of_getElem? (i := 176) rfl)) rfl
theorem w1856 : Cond.static ⟨"SeriesVaultLaw", "delete", "(LSeriesVault;IJJ[J)I"⟩ ∈ aW := aw_of (tb_5 (List.mem_of_getElem? (i := 175) rfl)) rfl
theorem w1857 : Cond.methodLink "SeriesVaultLaw" 144 ⟨"SeriesVaultModel", "delete", "(IJJ)I"⟩ ∈ aW := aw_of (tb_10 (List.mem_of_getElem? (i := 48) rfl)) rfl
theorem w1858 : Cond.code ⟨"SeriesVaultModel", "delete", "(IJJ)I"⟩ prog_14_method_37_code 7 (some FieldType.int) ∈ aW := aw_of (tb_10 (List.mem_of_getElem? (i := 51) rfl)) rfl
theorem w1859 : Cond.instanceMethod ⟨"SeriesVaultModel", "delete", "(IJJ)I"⟩ ∈ aW := aw_of (tb_10 (List.mem_of_getElem? (i := 49) rfl)) rfl
theorem w1860 : Cond.selects "SeriesVaultModel" ⟨"SeriesVaultModel", "delete", "(IJJ)I"⟩ ⟨"SeriesVaultModel", "delete", "(IJJ)I"⟩ ∈ aW := aw_of (tb_10 (List.mem_of_getElem? (i := 50) rfl)) rfl
set_option maxHeartbeats 4000000 in
set_option maxRecDepth 100000 in
theorem l9_8 {p : Program} {e : Env} {s : State} {m : MethodId} {below : List Frame} {meth : Method} {c : Code} (l : Launch) {b L : Nat} {xs : Nat → Int32} {D : va_G} {dA : Nat → ClassId} {e0 : Nat} {A : Nat → Prop} {H : Heap} {locs : List Loc} {ls : Array Slot} (hC : lS p l s m meth c b L xs D dA e0 A) {h : Nat} {ad : Nat → Nat} {x : VS} {mm : Nat} {mad : Nat → Nat} {M M1 : MS} {o : Nat} {og : Nat → Int64} {i fr1 lo1 fr2 lo2 mc9 ms9 cells slots : Nat} {F9 : VS → Prop} {b9 : Int32} {v9 : Int64} (hi : i + 6 ≤ L) (hL : L ≤ 3072) (hfr : fr1 ≤ 2000 ∧ lo1 ≤ 80000 ∧ fr2 ≤ 2000 ∧ lo2 ≤ 80000) (hrm : cells + mc9 ≤ 601024 ∧ slots + ms9 ≤ 7293034) (hcod : M1.cod = 0) (hv : v9 = b9.toInt64) (hW : ∀ sz : Nat, Met l ⟨"SeriesVaultLaw", "delete", "(LSeriesVault;IJJ[J)I"⟩ [Cond.codeWith ⟨"SeriesVaultLaw", "delete", "(LSeriesVault;IJJ[J)I"⟩ method_11_code 8 (some FieldType.int) [(0, 13, 16, 29), (0, 13, 20, 35), (0, 13, 24, 19), (0, 13, 28, 13)]] { frames := fr1, cells := mc9, slots := ms9, locals := lo1 } (pC D dA [.ref h, .int (xs (i + 1)), .long ((((xs (i + 2)).toInt64) <<< ((32 : Int32).toInt64 &&& 63)) ||| (((xs (i + 3)).toInt64) &&& 4294967295)), .long ((((xs (i + 4)).toInt64) <<< ((32 : Int32).toInt64 &&& 63)) ||| (((xs (i + 5)).toInt64) &&& 4294967295)), .ref o] (([(o, .inl (dA 2, 1, .inr (.inl og)))] : va_W) ++ (VW dA h ad x)) sz) (va_Qi (fun (r9 : Int32) (u9 : VS) => r9 = 0 ∧ F9 u9) (fun (u9 : VS) t9 => bW D (va_A (([(o, .inl (dA 2, 1, .inr (.inl og)))] : va_W) ++ (VW dA h ad x)) sz) (([(o, .inl (dA 2, 1, .inr (.inl (va_up og 0 v9))))] : va_W) ++ (VW dA h ad u9)) t9) (va_A (([(o, .inl (dA 2, 1, .inr (.inl og)))] : va_W) ++ (VW dA h ad x)) sz)) mc9 ms9 (va_A (([(o, .inl (dA 2, 1, .inr (.inl og)))] : va_W) ++ (VW dA h ad x)) sz)) (hM : ∀ sz : Nat, Met l ⟨"SeriesVaultModel", "delete", "(IJJ)I"⟩ [Cond.code ⟨"SeriesVaultModel", "delete", "(IJJ)I"⟩ prog_14_method_37_code 7 (some FieldType.int)] { frames := fr2, cells := 0, slots := 0, locals := lo2 } (pC D dA [.ref mm, .int (xs (i + 1)), .long ((((xs (i + 2)).toInt64) <<< ((32 : Int32).toInt64 &&& 63)) ||| (((xs (i + 3)).toInt64) &&& 4294967295)), .long ((((xs (i + 4)).toInt64) <<< ((32 : Int32).toInt64 &&& 63)) ||| (((xs (i + 5)).toInt64) &&& 4294967295))] (MW dA mm mad M) sz) (va_Qi (fun (r9 : Int32) (u9 : Unit) => r9 = b9) (fun (u9 : Unit) t9 => bW D (va_A (MW dA mm mad M) sz) (MW dA mm mad M1) t9) (va_A (MW dA mm mad M) sz)) 0 0 (va_A (MW dA mm mad M) sz)) (hP : va_P D vwCl (MW dA mm mad M ++ (([(o, .inl (dA 2, 1, .inr (.inl og)))] : va_W) ++ (VW dA h ad x))) H) (hD : va_D A (MW dA mm mad M ++ (([(o, .inl (dA 2, 1, .inr (.inl og)))] : va_W) ++ (VW dA h ad x)))) (hS : va_S A s.heap H locs) (hl : lv_has ls 8 [(4, .int (nI i)), (3, .ref o), (2, .ref mm), (1, .ref h), (0, .ref b)]) (cont : ∀ (u : VS) (H1 : Heap) (locs1 : List Loc) (ls1 : Array Slot), F9 u → va_P D vwCl (MW dA mm mad M1 ++ (([(o, .inl (dA 2, 1, .inr (.inl (va_up og 0 v9))))] : va_W) ++ (VW dA h ad u))) H1 → va_D A (MW dA mm mad M1 ++ (([(o, .inl (dA 2, 1, .inr (.inl (va_up og 0 v9))))] : va_W) ++ (VW dA h ad u))) → va_S A s.heap H1 locs1 → lv_has ls1 8 [(4, .int (nI (i + 6))), (3, .ref o), (2, .ref mm), (1, .ref h), (0, .ref b)] → W p l e room_1 s m #[Value.ref b] below meth c H1 locs1 (cells + mc9 + 0 + 0) (slots + ms9 + 0 + 0) (lw_Z below #[Value.ref b] s) (F0 m 23 ls1 [])) : W p l e room_1 s m #[Value.ref b] below meth c H locs cells slots (lw_Z below #[Value.ref b] s) (F0 m 712 ls []) := by
  have hC0 := hC
  obtain ⟨hx, hb, hr, hml, hown, hlk, hE, hK, hA, hN, hZ, hT, hX, hbl, hbA, hnew, htr⟩ := hC
  refine lv_aload_n hx hb d_SeriesVaultLaw_law_712 rfl (lv_at hl 3 rfl) ?_
  refine lv_aload_n hx hb d_SeriesVaultLaw_law_713 rfl (lv_at hl 4 rfl) ?_
  refine lv_iload hx hb d_SeriesVaultLaw_law_714 (lv_at hl 0 rfl) ?_
  refine lv_iconst (v := 1) hx hb d_SeriesVaultLaw_law_716 (by decide) ?_
  refine lv_iadd hx hb d_SeriesVaultLaw_law_717 (tpi (y := nI (i + 1)) (nI_add (i) (1)) ?_)
  refine sldN hx hb hX hbl hbA hS (show i + 1 < L by omega) (show L ≤ 65536 by omega) d_SeriesVaultLaw_law_718 ?_
  refine lv_aload_n hx hb d_SeriesVaultLaw_law_719 rfl (lv_at hl 4 rfl) ?_
  refine lv_iload hx hb d_SeriesVaultLaw_law_720 (lv_at hl 0 rfl) ?_
  refine lv_iconst (v := 2) hx hb d_SeriesVaultLaw_law_722 (by decide) ?_
  refine lv_iadd hx hb d_SeriesVaultLaw_law_723 (tpi (y := nI (i + 2)) (nI_add (i) (2)) ?_)
  refine sldN hx hb hX hbl hbA hS (show i + 2 < L by omega) (show L ≤ 65536 by omega) d_SeriesVaultLaw_law_724 ?_
  refine lv_i2l hx hb d_SeriesVaultLaw_law_725 rfl ?_
  refine lv_bipush (v := 32) hx hb d_SeriesVaultLaw_law_726 (by decide) ?_
  refine lv_lshl hx hb d_SeriesVaultLaw_law_728 rfl ?_
  refine lv_aload_n hx hb d_SeriesVaultLaw_law_729 rfl (lv_at hl 4 rfl) ?_
  refine lv_iload hx hb d_SeriesVaultLaw_law_730 (lv_at hl 0 rfl) ?_
  refine lv_iconst (v := 3) hx hb d_SeriesVaultLaw_law_732 (by decide) ?_
  refine lv_iadd hx hb d_SeriesVaultLaw_law_733 (tpi (y := nI (i + 3)) (nI_add (i) (3)) ?_)
  refine sldN hx hb hX hbl hbA hS (show i + 3 < L by omega) (show L ≤ 65536 by omega) d_SeriesVaultLaw_law_734 ?_
  refine lv_i2l hx hb d_SeriesVaultLaw_law_735 rfl ?_
  refine lv_ldc2 (v := 4294967295) hx hb hown (hE.t w1839 rfl) d_SeriesVaultLaw_law_736 ?_
  refine lv_land hx hb d_SeriesVaultLaw_law_739 ?_
  refine lv_lor hx hb d_SeriesVaultLaw_law_740 ?_
  refine lv_aload_n hx hb d_SeriesVaultLaw_law_741 rfl (lv_at hl 4 rfl) ?_
  refine lv_iload hx hb d_SeriesVaultLaw_law_742 (lv_at hl 0 rfl) ?_
  refine lv_iconst (v := 4) hx hb d_SeriesVaultLaw_law_744 (by decide) ?_
  refine lv_iadd hx hb d_SeriesVaultLaw_law_745 (tpi (y := nI (i + 4)) (nI_add (i) (4)) ?_)
  refine sldN hx hb hX hbl hbA hS (show i + 4 < L by omega) (show L ≤ 65536 by omega) d_SeriesVaultLaw_law_746 ?_
  refine lv_i2l hx hb d_SeriesVaultLaw_law_747 rfl ?_
  refine lv_bipush (v := 32) hx hb d_SeriesVaultLaw_law_748 (by decide) ?_
  refine lv_lshl hx hb d_SeriesVaultLaw_law_750 rfl ?_
  refine lv_aload_n hx hb d_SeriesVaultLaw_law_751 rfl (lv_at hl 4 rfl) ?_
  refine lv_iload hx hb d_SeriesVaultLaw_law_752 (lv_at hl 0 rfl) ?_
  refine lv_iconst (v := 5) hx hb d_SeriesVaultLaw_law_754 (by decide) ?_
  refine lv_iadd hx hb d_SeriesVaultLaw_law_755 (tpi (y := nI (i + 5)) (nI_add (i) (5)) ?_)
  refine sldN hx hb hX hbl hbA hS (show i + 5 < L by omega) (show L ≤ 65536 by omega) d_SeriesVaultLaw_law_756 ?_
  refine lv_i2l hx hb d_SeriesVaultLaw_law_757 rfl ?_
  refine lv_ldc2 (v := 4294967295) hx hb hown (hE.t w1839 rfl) d_SeriesVaultLaw_law_758 ?_
  refine lv_land hx hb d_SeriesVaultLaw_law_761 ?_
  refine lv_lor hx hb d_SeriesVaultLaw_law_762 ?_
  refine lv_aload_n hx hb d_SeriesVaultLaw_law_763 rfl (lv_at hl 1 rfl) ?_
  have hPc : va_P D vwCl (([(o, .inl (dA 2, 1, .inr (.inl og)))] : va_W) ++ (VW dA h ad x)) H := spP (wr := MW dA mm mad M) hP
  have hDc : va_D A (([(o, .inl (dA 2, 1, .inr (.inl og)))] : va_W) ++ (VW dA h ad x)) := spD (wr := MW dA mm mad M) hD
  refine jkI (wr := MW dA mm mad M) (rnW (As := [.ref h, .int (xs (i + 1)), .long ((((xs (i + 2)).toInt64) <<< ((32 : Int32).toInt64 &&& 63)) ||| (((xs (i + 3)).toInt64) &&& 4294967295)), .long ((((xs (i + 4)).toInt64) <<< ((32 : Int32).toInt64 &&& 63)) ||| (((xs (i + 5)).toInt64) &&& 4294967295)), .ref o]) (rest := []) hx hb hml hown hE hK (hN _ _ hS) hPc hDc (hW H.size) w1855 w1854 w1856 w1793 rfl rfl ⟨⟨by decide, by decide⟩, rfl⟩ ⟨(show fr1 + 1 ≤ 2048 by omega), (show 8 + (8 + 11) + lo1 ≤ 84000 by omega)⟩ rfl hl.1 rfl (Nat.le_of_ble_eq_true rfl) d_SeriesVaultLaw_law_764 ⟨(show cells + mc9 ≤ 601024 by omega), (show slots + ms9 ≤ 7293034 by omega)⟩) hP hD hS hA (fun k8 u8 H locs hp9 hP hD hS => ?_)
  obtain ⟨hp9, hf9⟩ := hp9
  replace hp9 : 0 = k8 := Eq.symm hp9
  subst hp9
  have hP : va_P D vwCl (MW dA mm mad M ++ (([(o, .inl (dA 2, 1, .inr (.inl (va_up og 0 v9))))] : va_W) ++ (VW dA h ad u8))) H := hP
  have hD : va_D A (MW dA mm mad M ++ (([(o, .inl (dA 2, 1, .inr (.inl (va_up og 0 v9))))] : va_W) ++ (VW dA h ad u8))) := hD
  refine lv_istore hx hb d_SeriesVaultLaw_law_767 hl (by decide) rfl (fun ls hl => ?_)
  have hl : lv_has ls 8 [(5, .int 0), (4, .int (nI i)), (3, .ref o), (2, .ref mm), (1, .ref h), (0, .ref b)] := hl
  refine lv_aload_n hx hb d_SeriesVaultLaw_law_769 rfl (lv_at hl 3 rfl) ?_
  refine lv_aload_n hx hb d_SeriesVaultLaw_law_770 rfl (lv_at hl 5 rfl) ?_
  refine lv_iload hx hb d_SeriesVaultLaw_law_771 (lv_at hl 1 rfl) ?_
  refine lv_iconst (v := 1) hx hb d_SeriesVaultLaw_law_773 (by decide) ?_
  refine lv_iadd hx hb d_SeriesVaultLaw_law_774 (tpi (y := nI (i + 1)) (nI_add (i) (1)) ?_)
  refine sldN hx hb hX hbl hbA hS (show i + 1 < L by omega) (show L ≤ 65536 by omega) d_SeriesVaultLaw_law_775 ?_
  refine lv_aload_n hx hb d_SeriesVaultLaw_law_776 rfl (lv_at hl 5 rfl) ?_
  refine lv_iload hx hb d_SeriesVaultLaw_law_777 (lv_at hl 1 rfl) ?_
  refine lv_iconst (v := 2) hx hb d_SeriesVaultLaw_law_779 (by decide) ?_
  refine lv_iadd hx hb d_SeriesVaultLaw_law_780 (tpi (y := nI (i + 2)) (nI_add (i) (2)) ?_)
  refine sldN hx hb hX hbl hbA hS (show i + 2 < L by omega) (show L ≤ 65536 by omega) d_SeriesVaultLaw_law_781 ?_
  refine lv_i2l hx hb d_SeriesVaultLaw_law_782 rfl ?_
  refine lv_bipush (v := 32) hx hb d_SeriesVaultLaw_law_783 (by decide) ?_
  refine lv_lshl hx hb d_SeriesVaultLaw_law_785 rfl ?_
  refine lv_aload_n hx hb d_SeriesVaultLaw_law_786 rfl (lv_at hl 5 rfl) ?_
  refine lv_iload hx hb d_SeriesVaultLaw_law_787 (lv_at hl 1 rfl) ?_
  refine lv_iconst (v := 3) hx hb d_SeriesVaultLaw_law_789 (by decide) ?_
  refine lv_iadd hx hb d_SeriesVaultLaw_law_790 (tpi (y := nI (i + 3)) (nI_add (i) (3)) ?_)
  refine sldN hx hb hX hbl hbA hS (show i + 3 < L by omega) (show L ≤ 65536 by omega) d_SeriesVaultLaw_law_791 ?_
  refine lv_i2l hx hb d_SeriesVaultLaw_law_792 rfl ?_
  refine lv_ldc2 (v := 4294967295) hx hb hown (hE.t w1839 rfl) d_SeriesVaultLaw_law_793 ?_
  refine lv_land hx hb d_SeriesVaultLaw_law_796 ?_
  refine lv_lor hx hb d_SeriesVaultLaw_law_797 ?_
  refine lv_aload_n hx hb d_SeriesVaultLaw_law_798 rfl (lv_at hl 5 rfl) ?_
  refine lv_iload hx hb d_SeriesVaultLaw_law_799 (lv_at hl 1 rfl) ?_
  refine lv_iconst (v := 4) hx hb d_SeriesVaultLaw_law_801 (by decide) ?_
  refine lv_iadd hx hb d_SeriesVaultLaw_law_802 (tpi (y := nI (i + 4)) (nI_add (i) (4)) ?_)
  refine sldN hx hb hX hbl hbA hS (show i + 4 < L by omega) (show L ≤ 65536 by omega) d_SeriesVaultLaw_law_803 ?_
  refine lv_i2l hx hb d_SeriesVaultLaw_law_804 rfl ?_
  refine lv_bipush (v := 32) hx hb d_SeriesVaultLaw_law_805 (by decide) ?_
  refine lv_lshl hx hb d_SeriesVaultLaw_law_807 rfl ?_
  refine lv_aload_n hx hb d_SeriesVaultLaw_law_808 rfl (lv_at hl 5 rfl) ?_
  refine lv_iload hx hb d_SeriesVaultLaw_law_809 (lv_at hl 1 rfl) ?_
  refine lv_iconst (v := 5) hx hb d_SeriesVaultLaw_law_811 (by decide) ?_
  refine lv_iadd hx hb d_SeriesVaultLaw_law_812 (tpi (y := nI (i + 5)) (nI_add (i) (5)) ?_)
  refine sldN hx hb hX hbl hbA hS (show i + 5 < L by omega) (show L ≤ 65536 by omega) d_SeriesVaultLaw_law_813 ?_
  refine lv_i2l hx hb d_SeriesVaultLaw_law_814 rfl ?_
  refine lv_ldc2 (v := 4294967295) hx hb hown (hE.t w1839 rfl) d_SeriesVaultLaw_law_815 ?_
  refine lv_land hx hb d_SeriesVaultLaw_law_818 ?_
  refine lv_lor hx hb d_SeriesVaultLaw_law_819 ?_
  have hP := pmP (show List.Perm (α := Nat × va_E) (MW dA mm mad M ++ (([(o, .inl (dA 2, 1, .inr (.inl (va_up og 0 v9))))] : va_W) ++ (VW dA h ad u8))) (([(o, .inl (dA 2, 1, .inr (.inl (va_up og 0 v9))))] : va_W) ++ (MW dA mm mad M ++ (VW dA h ad u8))) from List.perm_append_comm_assoc (MW dA mm mad M) (([(o, .inl (dA 2, 1, .inr (.inl (va_up og 0 v9))))] : va_W)) (VW dA h ad u8)) hP
  have hD := pmD (show List.Perm (α := Nat × va_E) (MW dA mm mad M ++ (([(o, .inl (dA 2, 1, .inr (.inl (va_up og 0 v9))))] : va_W) ++ (VW dA h ad u8))) (([(o, .inl (dA 2, 1, .inr (.inl (va_up og 0 v9))))] : va_W) ++ (MW dA mm mad M ++ (VW dA h ad u8))) from List.perm_append_comm_assoc (MW dA mm mad M) (([(o, .inl (dA 2, 1, .inr (.inl (va_up og 0 v9))))] : va_W)) (VW dA h ad u8)) hD
  have hP := pmP (show List.Perm (α := Nat × va_E) (([(o, .inl (dA 2, 1, .inr (.inl (va_up og 0 v9))))] : va_W) ++ (MW dA mm mad M ++ (VW dA h ad u8))) (([(o, .inl (dA 2, 1, .inr (.inl (va_up og 0 v9))))] : va_W) ++ (VW dA h ad u8 ++ (MW dA mm mad M))) from List.Perm.append_left (([(o, .inl (dA 2, 1, .inr (.inl (va_up og 0 v9))))] : va_W)) (List.perm_append_comm)) hP
  have hD := pmD (show List.Perm (α := Nat × va_E) (([(o, .inl (dA 2, 1, .inr (.inl (va_up og 0 v9))))] : va_W) ++ (MW dA mm mad M ++ (VW dA h ad u8))) (([(o, .inl (dA 2, 1, .inr (.inl (va_up og 0 v9))))] : va_W) ++ (VW dA h ad u8 ++ (MW dA mm mad M))) from List.Perm.append_left (([(o, .inl (dA 2, 1, .inr (.inl (va_up og 0 v9))))] : va_W)) (List.perm_append_comm)) hD
  have hPc : va_P D vwCl (MW dA mm mad M) H := spP (wr := ([(o, .inl (dA 2, 1, .inr (.inl (va_up og 0 v9))))] : va_W) ++ (VW dA h ad u8)) hP
  have hDc : va_D A (MW dA mm mad M) := spD (wr := ([(o, .inl (dA 2, 1, .inr (.inl (va_up og 0 v9))))] : va_W) ++ (VW dA h ad u8)) hD
  refine jkI (wr := ([(o, .inl (dA 2, 1, .inr (.inl (va_up og 0 v9))))] : va_W) ++ (VW dA h ad u8)) (rnV (As := [.int (xs (i + 1)), .long ((((xs (i + 2)).toInt64) <<< ((32 : Int32).toInt64 &&& 63)) ||| (((xs (i + 3)).toInt64) &&& 4294967295)), .long ((((xs (i + 4)).toInt64) <<< ((32 : Int32).toInt64 &&& 63)) ||| (((xs (i + 5)).toInt64) &&& 4294967295))]) (rest := []) hx hb hml hown hE hK (hN _ _ hS) hPc hDc (hM H.size) (q0 := 0) rfl rfl w1858 w1857 w1859 w1860 w328 rfl rfl ⟨⟨by decide, by decide⟩, rfl⟩ ⟨(show fr2 + 1 ≤ 2048 by omega), (show 8 + (7 + 11) + lo2 ≤ 84000 by omega)⟩ rfl hl.1 rfl (Nat.le_of_ble_eq_true rfl) d_SeriesVaultLaw_law_820 ⟨(show cells + mc9 + 0 ≤ 601024 by omega), (show slots + ms9 + 0 ≤ 7293034 by omega)⟩) hP hD hS hA (fun r7 u7 H locs hp9 hP hD hS => ?_)
  replace hp9 : b9 = r7 := Eq.symm hp9
  subst hp9
  have hP : va_P D vwCl (([(o, .inl (dA 2, 1, .inr (.inl (va_up og 0 v9))))] : va_W) ++ (VW dA h ad u8 ++ (MW dA mm mad M1))) H := hP
  have hD : va_D A (([(o, .inl (dA 2, 1, .inr (.inl (va_up og 0 v9))))] : va_W) ++ (VW dA h ad u8 ++ (MW dA mm mad M1))) := hD
  refine lv_istore hx hb d_SeriesVaultLaw_law_823 hl (by decide) rfl (fun ls hl => ?_)
  have hl : lv_has ls 8 [(6, .int b9), (5, .int 0), (4, .int (nI i)), (3, .ref o), (2, .ref mm), (1, .ref h), (0, .ref b)] := hl
  refine lv_aload_n hx hb d_SeriesVaultLaw_law_825 rfl (lv_at hl 4 rfl) ?_
  have hPc : va_P D vwCl (MW dA mm mad M1) H := spP (wr := ([(o, .inl (dA 2, 1, .inr (.inl (va_up og 0 v9))))] : va_W) ++ (VW dA h ad u8)) hP
  have hDc : va_D A (MW dA mm mad M1) := spD (wr := ([(o, .inl (dA 2, 1, .inr (.inl (va_up og 0 v9))))] : va_W) ++ (VW dA h ad u8)) hD
  refine jkI (wr := ([(o, .inl (dA 2, 1, .inr (.inl (va_up og 0 v9))))] : va_W) ++ (VW dA h ad u8)) (rnV (As := []) (rest := []) hx hb hml hown hE hK (hN _ _ hS) hPc hDc (k_thrown l D dA H.size mm mad M1) (q0 := 0) rfl rfl w1801 w1800 w1802 w1803 w328 rfl rfl ⟨⟨by decide, by decide⟩, rfl⟩ ⟨(show 1 + 1 ≤ 2048 by omega), (show 8 + (1 + 11) + 0 ≤ 84000 by omega)⟩ rfl hl.1 rfl (Nat.le_of_ble_eq_true rfl) d_SeriesVaultLaw_law_826 ⟨(show cells + mc9 + 0 ≤ 601024 by omega), (show slots + ms9 + 0 ≤ 7293034 by omega)⟩) hP hD hS hA (fun r7 u7 H locs hp9 hP hD hS => ?_)
  replace hp9 : 0 = r7 := Eq.symm (hp9.trans hcod)
  subst hp9
  have hP : va_P D vwCl (([(o, .inl (dA 2, 1, .inr (.inl (va_up og 0 v9))))] : va_W) ++ (VW dA h ad u8 ++ (MW dA mm mad M1))) H := hP
  have hD : va_D A (([(o, .inl (dA 2, 1, .inr (.inl (va_up og 0 v9))))] : va_W) ++ (VW dA h ad u8 ++ (MW dA mm mad M1))) := hD
  refine lv_iload hx hb d_SeriesVaultLaw_law_829 (lv_at hl 1 rfl) ?_
  refine lv_icmp_eq hx hb d_SeriesVaultLaw_law_831 (tgt := 836) rfl (fun _ => ?_) (fun h9 => absurd rfl h9)
  refine lv_iload hx hb d_SeriesVaultLaw_law_836 (lv_at hl 1 rfl) ?_
  refine lv_if_ne hx hb d_SeriesVaultLaw_law_838 (tgt := 853) rfl (fun h9 => absurd (by decide) h9) (fun _ => ?_)
  refine lv_aload_n hx hb d_SeriesVaultLaw_law_841 rfl (lv_at hl 3 rfl) ?_
  refine lv_iconst (v := 0) hx hb d_SeriesVaultLaw_law_842 (by decide) ?_
  refine nlld (f := (va_up og 0 v9)) (n := 1) hx hb hK hP (0) 2 rfl rfl (0) (by decide) (by decide) d_SeriesVaultLaw_law_843 ?_
  refine tpl (y := v9) (va_up_self _ _ _) ?_
  refine lv_iload hx hb d_SeriesVaultLaw_law_844 (lv_at hl 0 rfl) ?_
  refine lv_i2l hx hb d_SeriesVaultLaw_law_846 rfl ?_
  refine W.lcmp hx hb d_SeriesVaultLaw_law_847 ?_
  refine lv_if_eq hx hb d_SeriesVaultLaw_law_848 (tgt := 853) rfl (fun _ => ?_) (fun h9 => absurd ((lg_cmp_eq _ _).mpr hv) h9)
  refine lv_goto hx hb d_SeriesVaultLaw_law_853 (tgt := 1770) rfl ?_
  refine lv_iinc (k := 2) (v := nI (i + 6)) hx hb d_SeriesVaultLaw_law_1770 hl rfl (iincN (i) 6 6 (by decide)) (by decide) rfl (fun ls hl => ?_)
  have hl : lv_has ls 8 [(4, .int (nI (i + 6))), (6, .int b9), (5, .int 0), (3, .ref o), (2, .ref mm), (1, .ref h), (0, .ref b)] := hl
  refine lv_goto hx hb d_SeriesVaultLaw_law_1773 (tgt := 23) rfl ?_
  have hP := pmP (show List.Perm (α := Nat × va_E) (([(o, .inl (dA 2, 1, .inr (.inl (va_up og 0 v9))))] : va_W) ++ (VW dA h ad u8 ++ (MW dA mm mad M1))) (MW dA mm mad M1 ++ (([(o, .inl (dA 2, 1, .inr (.inl (va_up og 0 v9))))] : va_W) ++ (VW dA h ad u8))) from (List.Perm.append_left (([(o, .inl (dA 2, 1, .inr (.inl (va_up og 0 v9))))] : va_W)) (List.perm_append_comm)).trans (List.perm_append_comm_assoc (([(o, .inl (dA 2, 1, .inr (.inl (va_up og 0 v9))))] : va_W)) (MW dA mm mad M1) (VW dA h ad u8))) hP
  have hD := pmD (show List.Perm (α := Nat × va_E) (([(o, .inl (dA 2, 1, .inr (.inl (va_up og 0 v9))))] : va_W) ++ (VW dA h ad u8 ++ (MW dA mm mad M1))) (MW dA mm mad M1 ++ (([(o, .inl (dA 2, 1, .inr (.inl (va_up og 0 v9))))] : va_W) ++ (VW dA h ad u8))) from (List.Perm.append_left (([(o, .inl (dA 2, 1, .inr (.inl (va_up og 0 v9))))] : va_W)) (List.perm_append_comm)).trans (List.perm_append_comm_assoc (([(o, .inl (dA 2, 1, .inr (.inl (va_up og 0 v9))))] : va_W)) (MW dA mm mad M1) (VW dA h ad u8))) hD
  have hP : va_P D vwCl (MW dA mm mad M1 ++ (([(o, .inl (dA 2, 1, .inr (.inl (va_up og 0 v9))))] : va_W) ++ (VW dA h ad u8))) H := hP
  have hD : va_D A (MW dA mm mad M1 ++ (([(o, .inl (dA 2, 1, .inr (.inl (va_up og 0 v9))))] : va_W) ++ (VW dA h ad u8))) := hD
  have hl := lv_sub (l' := [(4, .int (nI (i + 6))), (3, .ref o), (2, .ref mm), (1, .ref h), (0, .ref b)]) hl [0, 3, 4, 5, 6] rfl
  exact cont u8 H locs ls hf9 hP hD hS hl
set_option maxHeartbeats 4000000 in
set_option maxRecDepth 100000 in
theorem l9_8_x {p : Program} {e : Env} {s : State} {m : MethodId} {below : List Frame} {meth : Method} {c : Code} (l : Launch) {b L : Nat} {xs : Nat → Int32} {D : va_G} {dA : Nat → ClassId} {e0 : Nat} {A : Nat → Prop} {H : Heap} {locs : List Loc} {ls : Array Slot} (hC : lS p l s m meth c b L xs D dA e0 A) {h : Nat} {ad : Nat → Nat} {x : VS} {mm : Nat} {mad : Nat → Nat} {M M1 : MS} {o : Nat} {og : Nat → Int64} {i fr1 lo1 fr2 lo2 mc9 ms9 cells slots : Nat} {F9 : VS → Prop} {b9 : Int32} {k9 : Nat} (hi : i + 6 ≤ L) (hL : L ≤ 3072) (hfr : fr1 ≤ 2000 ∧ lo1 ≤ 80000 ∧ fr2 ≤ 2000 ∧ lo2 ≤ 80000) (hrm : cells + mc9 ≤ 601024 ∧ slots + ms9 ≤ 7293034) (hcod : M1.cod = nI k9) (hk9 : ¬ nI k9 = 0) (hW : ∀ sz : Nat, Met l ⟨"SeriesVaultLaw", "delete", "(LSeriesVault;IJJ[J)I"⟩ [Cond.codeWith ⟨"SeriesVaultLaw", "delete", "(LSeriesVault;IJJ[J)I"⟩ method_11_code 8 (some FieldType.int) [(0, 13, 16, 29), (0, 13, 20, 35), (0, 13, 24, 19), (0, 13, 28, 13)]] { frames := fr1, cells := mc9, slots := ms9, locals := lo1 } (pC D dA [.ref h, .int (xs (i + 1)), .long ((((xs (i + 2)).toInt64) <<< ((32 : Int32).toInt64 &&& 63)) ||| (((xs (i + 3)).toInt64) &&& 4294967295)), .long ((((xs (i + 4)).toInt64) <<< ((32 : Int32).toInt64 &&& 63)) ||| (((xs (i + 5)).toInt64) &&& 4294967295)), .ref o] (([(o, .inl (dA 2, 1, .inr (.inl og)))] : va_W) ++ (VW dA h ad x)) sz) (va_Qi (fun (r9 : Int32) (u9 : VS) => r9 = nI k9 ∧ F9 u9) (fun (u9 : VS) t9 => bW D (va_A (([(o, .inl (dA 2, 1, .inr (.inl og)))] : va_W) ++ (VW dA h ad x)) sz) (([(o, .inl (dA 2, 1, .inr (.inl (og))))] : va_W) ++ (VW dA h ad u9)) t9) (va_A (([(o, .inl (dA 2, 1, .inr (.inl og)))] : va_W) ++ (VW dA h ad x)) sz)) mc9 ms9 (va_A (([(o, .inl (dA 2, 1, .inr (.inl og)))] : va_W) ++ (VW dA h ad x)) sz)) (hM : ∀ sz : Nat, Met l ⟨"SeriesVaultModel", "delete", "(IJJ)I"⟩ [Cond.code ⟨"SeriesVaultModel", "delete", "(IJJ)I"⟩ prog_14_method_37_code 7 (some FieldType.int)] { frames := fr2, cells := 0, slots := 0, locals := lo2 } (pC D dA [.ref mm, .int (xs (i + 1)), .long ((((xs (i + 2)).toInt64) <<< ((32 : Int32).toInt64 &&& 63)) ||| (((xs (i + 3)).toInt64) &&& 4294967295)), .long ((((xs (i + 4)).toInt64) <<< ((32 : Int32).toInt64 &&& 63)) ||| (((xs (i + 5)).toInt64) &&& 4294967295))] (MW dA mm mad M) sz) (va_Qi (fun (r9 : Int32) (u9 : Unit) => r9 = b9) (fun (u9 : Unit) t9 => bW D (va_A (MW dA mm mad M) sz) (MW dA mm mad M1) t9) (va_A (MW dA mm mad M) sz)) 0 0 (va_A (MW dA mm mad M) sz)) (hP : va_P D vwCl (MW dA mm mad M ++ (([(o, .inl (dA 2, 1, .inr (.inl og)))] : va_W) ++ (VW dA h ad x))) H) (hD : va_D A (MW dA mm mad M ++ (([(o, .inl (dA 2, 1, .inr (.inl og)))] : va_W) ++ (VW dA h ad x)))) (hS : va_S A s.heap H locs) (hl : lv_has ls 8 [(4, .int (nI i)), (3, .ref o), (2, .ref mm), (1, .ref h), (0, .ref b)]) (cont : ∀ (u : VS) (H1 : Heap) (locs1 : List Loc) (ls1 : Array Slot), F9 u → va_P D vwCl (MW dA mm mad M1 ++ (([(o, .inl (dA 2, 1, .inr (.inl og)))] : va_W) ++ (VW dA h ad u))) H1 → va_D A (MW dA mm mad M1 ++ (([(o, .inl (dA 2, 1, .inr (.inl og)))] : va_W) ++ (VW dA h ad u))) → va_S A s.heap H1 locs1 → lv_has ls1 8 [(4, .int (nI (i + 6))), (3, .ref o), (2, .ref mm), (1, .ref h), (0, .ref b)] → W p l e room_1 s m #[Value.ref b] below meth c H1 locs1 (cells + mc9 + 0 + 0) (slots + ms9 + 0 + 0) (lw_Z below #[Value.ref b] s) (F0 m 23 ls1 [])) : W p l e room_1 s m #[Value.ref b] below meth c H locs cells slots (lw_Z below #[Value.ref b] s) (F0 m 712 ls []) := by
  have hC0 := hC
  obtain ⟨hx, hb, hr, hml, hown, hlk, hE, hK, hA, hN, hZ, hT, hX, hbl, hbA, hnew, htr⟩ := hC
  refine lv_aload_n hx hb d_SeriesVaultLaw_law_712 rfl (lv_at hl 3 rfl) ?_
  refine lv_aload_n hx hb d_SeriesVaultLaw_law_713 rfl (lv_at hl 4 rfl) ?_
  refine lv_iload hx hb d_SeriesVaultLaw_law_714 (lv_at hl 0 rfl) ?_
  refine lv_iconst (v := 1) hx hb d_SeriesVaultLaw_law_716 (by decide) ?_
  refine lv_iadd hx hb d_SeriesVaultLaw_law_717 (tpi (y := nI (i + 1)) (nI_add (i) (1)) ?_)
  refine sldN hx hb hX hbl hbA hS (show i + 1 < L by omega) (show L ≤ 65536 by omega) d_SeriesVaultLaw_law_718 ?_
  refine lv_aload_n hx hb d_SeriesVaultLaw_law_719 rfl (lv_at hl 4 rfl) ?_
  refine lv_iload hx hb d_SeriesVaultLaw_law_720 (lv_at hl 0 rfl) ?_
  refine lv_iconst (v := 2) hx hb d_SeriesVaultLaw_law_722 (by decide) ?_
  refine lv_iadd hx hb d_SeriesVaultLaw_law_723 (tpi (y := nI (i + 2)) (nI_add (i) (2)) ?_)
  refine sldN hx hb hX hbl hbA hS (show i + 2 < L by omega) (show L ≤ 65536 by omega) d_SeriesVaultLaw_law_724 ?_
  refine lv_i2l hx hb d_SeriesVaultLaw_law_725 rfl ?_
  refine lv_bipush (v := 32) hx hb d_SeriesVaultLaw_law_726 (by decide) ?_
  refine lv_lshl hx hb d_SeriesVaultLaw_law_728 rfl ?_
  refine lv_aload_n hx hb d_SeriesVaultLaw_law_729 rfl (lv_at hl 4 rfl) ?_
  refine lv_iload hx hb d_SeriesVaultLaw_law_730 (lv_at hl 0 rfl) ?_
  refine lv_iconst (v := 3) hx hb d_SeriesVaultLaw_law_732 (by decide) ?_
  refine lv_iadd hx hb d_SeriesVaultLaw_law_733 (tpi (y := nI (i + 3)) (nI_add (i) (3)) ?_)
  refine sldN hx hb hX hbl hbA hS (show i + 3 < L by omega) (show L ≤ 65536 by omega) d_SeriesVaultLaw_law_734 ?_
  refine lv_i2l hx hb d_SeriesVaultLaw_law_735 rfl ?_
  refine lv_ldc2 (v := 4294967295) hx hb hown (hE.t w1839 rfl) d_SeriesVaultLaw_law_736 ?_
  refine lv_land hx hb d_SeriesVaultLaw_law_739 ?_
  refine lv_lor hx hb d_SeriesVaultLaw_law_740 ?_
  refine lv_aload_n hx hb d_SeriesVaultLaw_law_741 rfl (lv_at hl 4 rfl) ?_
  refine lv_iload hx hb d_SeriesVaultLaw_law_742 (lv_at hl 0 rfl) ?_
  refine lv_iconst (v := 4) hx hb d_SeriesVaultLaw_law_744 (by decide) ?_
  refine lv_iadd hx hb d_SeriesVaultLaw_law_745 (tpi (y := nI (i + 4)) (nI_add (i) (4)) ?_)
  refine sldN hx hb hX hbl hbA hS (show i + 4 < L by omega) (show L ≤ 65536 by omega) d_SeriesVaultLaw_law_746 ?_
  refine lv_i2l hx hb d_SeriesVaultLaw_law_747 rfl ?_
  refine lv_bipush (v := 32) hx hb d_SeriesVaultLaw_law_748 (by decide) ?_
  refine lv_lshl hx hb d_SeriesVaultLaw_law_750 rfl ?_
  refine lv_aload_n hx hb d_SeriesVaultLaw_law_751 rfl (lv_at hl 4 rfl) ?_
  refine lv_iload hx hb d_SeriesVaultLaw_law_752 (lv_at hl 0 rfl) ?_
  refine lv_iconst (v := 5) hx hb d_SeriesVaultLaw_law_754 (by decide) ?_
  refine lv_iadd hx hb d_SeriesVaultLaw_law_755 (tpi (y := nI (i + 5)) (nI_add (i) (5)) ?_)
  refine sldN hx hb hX hbl hbA hS (show i + 5 < L by omega) (show L ≤ 65536 by omega) d_SeriesVaultLaw_law_756 ?_
  refine lv_i2l hx hb d_SeriesVaultLaw_law_757 rfl ?_
  refine lv_ldc2 (v := 4294967295) hx hb hown (hE.t w1839 rfl) d_SeriesVaultLaw_law_758 ?_
  refine lv_land hx hb d_SeriesVaultLaw_law_761 ?_
  refine lv_lor hx hb d_SeriesVaultLaw_law_762 ?_
  refine lv_aload_n hx hb d_SeriesVaultLaw_law_763 rfl (lv_at hl 1 rfl) ?_
  have hPc : va_P D vwCl (([(o, .inl (dA 2, 1, .inr (.inl og)))] : va_W) ++ (VW dA h ad x)) H := spP (wr := MW dA mm mad M) hP
  have hDc : va_D A (([(o, .inl (dA 2, 1, .inr (.inl og)))] : va_W) ++ (VW dA h ad x)) := spD (wr := MW dA mm mad M) hD
  refine jkI (wr := MW dA mm mad M) (rnW (As := [.ref h, .int (xs (i + 1)), .long ((((xs (i + 2)).toInt64) <<< ((32 : Int32).toInt64 &&& 63)) ||| (((xs (i + 3)).toInt64) &&& 4294967295)), .long ((((xs (i + 4)).toInt64) <<< ((32 : Int32).toInt64 &&& 63)) ||| (((xs (i + 5)).toInt64) &&& 4294967295)), .ref o]) (rest := []) hx hb hml hown hE hK (hN _ _ hS) hPc hDc (hW H.size) w1855 w1854 w1856 w1793 rfl rfl ⟨⟨by decide, by decide⟩, rfl⟩ ⟨(show fr1 + 1 ≤ 2048 by omega), (show 8 + (8 + 11) + lo1 ≤ 84000 by omega)⟩ rfl hl.1 rfl (Nat.le_of_ble_eq_true rfl) d_SeriesVaultLaw_law_764 ⟨(show cells + mc9 ≤ 601024 by omega), (show slots + ms9 ≤ 7293034 by omega)⟩) hP hD hS hA (fun k8 u8 H locs hp9 hP hD hS => ?_)
  obtain ⟨hp9, hf9⟩ := hp9
  replace hp9 : nI k9 = k8 := Eq.symm hp9
  subst hp9
  have hP : va_P D vwCl (MW dA mm mad M ++ (([(o, .inl (dA 2, 1, .inr (.inl og)))] : va_W) ++ (VW dA h ad u8))) H := hP
  have hD : va_D A (MW dA mm mad M ++ (([(o, .inl (dA 2, 1, .inr (.inl og)))] : va_W) ++ (VW dA h ad u8))) := hD
  refine lv_istore hx hb d_SeriesVaultLaw_law_767 hl (by decide) rfl (fun ls hl => ?_)
  have hl : lv_has ls 8 [(5, .int (nI k9)), (4, .int (nI i)), (3, .ref o), (2, .ref mm), (1, .ref h), (0, .ref b)] := hl
  refine lv_aload_n hx hb d_SeriesVaultLaw_law_769 rfl (lv_at hl 3 rfl) ?_
  refine lv_aload_n hx hb d_SeriesVaultLaw_law_770 rfl (lv_at hl 5 rfl) ?_
  refine lv_iload hx hb d_SeriesVaultLaw_law_771 (lv_at hl 1 rfl) ?_
  refine lv_iconst (v := 1) hx hb d_SeriesVaultLaw_law_773 (by decide) ?_
  refine lv_iadd hx hb d_SeriesVaultLaw_law_774 (tpi (y := nI (i + 1)) (nI_add (i) (1)) ?_)
  refine sldN hx hb hX hbl hbA hS (show i + 1 < L by omega) (show L ≤ 65536 by omega) d_SeriesVaultLaw_law_775 ?_
  refine lv_aload_n hx hb d_SeriesVaultLaw_law_776 rfl (lv_at hl 5 rfl) ?_
  refine lv_iload hx hb d_SeriesVaultLaw_law_777 (lv_at hl 1 rfl) ?_
  refine lv_iconst (v := 2) hx hb d_SeriesVaultLaw_law_779 (by decide) ?_
  refine lv_iadd hx hb d_SeriesVaultLaw_law_780 (tpi (y := nI (i + 2)) (nI_add (i) (2)) ?_)
  refine sldN hx hb hX hbl hbA hS (show i + 2 < L by omega) (show L ≤ 65536 by omega) d_SeriesVaultLaw_law_781 ?_
  refine lv_i2l hx hb d_SeriesVaultLaw_law_782 rfl ?_
  refine lv_bipush (v := 32) hx hb d_SeriesVaultLaw_law_783 (by decide) ?_
  refine lv_lshl hx hb d_SeriesVaultLaw_law_785 rfl ?_
  refine lv_aload_n hx hb d_SeriesVaultLaw_law_786 rfl (lv_at hl 5 rfl) ?_
  refine lv_iload hx hb d_SeriesVaultLaw_law_787 (lv_at hl 1 rfl) ?_
  refine lv_iconst (v := 3) hx hb d_SeriesVaultLaw_law_789 (by decide) ?_
  refine lv_iadd hx hb d_SeriesVaultLaw_law_790 (tpi (y := nI (i + 3)) (nI_add (i) (3)) ?_)
  refine sldN hx hb hX hbl hbA hS (show i + 3 < L by omega) (show L ≤ 65536 by omega) d_SeriesVaultLaw_law_791 ?_
  refine lv_i2l hx hb d_SeriesVaultLaw_law_792 rfl ?_
  refine lv_ldc2 (v := 4294967295) hx hb hown (hE.t w1839 rfl) d_SeriesVaultLaw_law_793 ?_
  refine lv_land hx hb d_SeriesVaultLaw_law_796 ?_
  refine lv_lor hx hb d_SeriesVaultLaw_law_797 ?_
  refine lv_aload_n hx hb d_SeriesVaultLaw_law_798 rfl (lv_at hl 5 rfl) ?_
  refine lv_iload hx hb d_SeriesVaultLaw_law_799 (lv_at hl 1 rfl) ?_
  refine lv_iconst (v := 4) hx hb d_SeriesVaultLaw_law_801 (by decide) ?_
  refine lv_iadd hx hb d_SeriesVaultLaw_law_802 (tpi (y := nI (i + 4)) (nI_add (i) (4)) ?_)
  refine sldN hx hb hX hbl hbA hS (show i + 4 < L by omega) (show L ≤ 65536 by omega) d_SeriesVaultLaw_law_803 ?_
  refine lv_i2l hx hb d_SeriesVaultLaw_law_804 rfl ?_
  refine lv_bipush (v := 32) hx hb d_SeriesVaultLaw_law_805 (by decide) ?_
  refine lv_lshl hx hb d_SeriesVaultLaw_law_807 rfl ?_
  refine lv_aload_n hx hb d_SeriesVaultLaw_law_808 rfl (lv_at hl 5 rfl) ?_
  refine lv_iload hx hb d_SeriesVaultLaw_law_809 (lv_at hl 1 rfl) ?_
  refine lv_iconst (v := 5) hx hb d_SeriesVaultLaw_law_811 (by decide) ?_
  refine lv_iadd hx hb d_SeriesVaultLaw_law_812 (tpi (y := nI (i + 5)) (nI_add (i) (5)) ?_)
  refine sldN hx hb hX hbl hbA hS (show i + 5 < L by omega) (show L ≤ 65536 by omega) d_SeriesVaultLaw_law_813 ?_
  refine lv_i2l hx hb d_SeriesVaultLaw_law_814 rfl ?_
  refine lv_ldc2 (v := 4294967295) hx hb hown (hE.t w1839 rfl) d_SeriesVaultLaw_law_815 ?_
  refine lv_land hx hb d_SeriesVaultLaw_law_818 ?_
  refine lv_lor hx hb d_SeriesVaultLaw_law_819 ?_
  have hP := pmP (show List.Perm (α := Nat × va_E) (MW dA mm mad M ++ (([(o, .inl (dA 2, 1, .inr (.inl og)))] : va_W) ++ (VW dA h ad u8))) (([(o, .inl (dA 2, 1, .inr (.inl og)))] : va_W) ++ (MW dA mm mad M ++ (VW dA h ad u8))) from List.perm_append_comm_assoc (MW dA mm mad M) (([(o, .inl (dA 2, 1, .inr (.inl og)))] : va_W)) (VW dA h ad u8)) hP
  have hD := pmD (show List.Perm (α := Nat × va_E) (MW dA mm mad M ++ (([(o, .inl (dA 2, 1, .inr (.inl og)))] : va_W) ++ (VW dA h ad u8))) (([(o, .inl (dA 2, 1, .inr (.inl og)))] : va_W) ++ (MW dA mm mad M ++ (VW dA h ad u8))) from List.perm_append_comm_assoc (MW dA mm mad M) (([(o, .inl (dA 2, 1, .inr (.inl og)))] : va_W)) (VW dA h ad u8)) hD
  have hP := pmP (show List.Perm (α := Nat × va_E) (([(o, .inl (dA 2, 1, .inr (.inl og)))] : va_W) ++ (MW dA mm mad M ++ (VW dA h ad u8))) (([(o, .inl (dA 2, 1, .inr (.inl og)))] : va_W) ++ (VW dA h ad u8 ++ (MW dA mm mad M))) from List.Perm.append_left (([(o, .inl (dA 2, 1, .inr (.inl og)))] : va_W)) (List.perm_append_comm)) hP
  have hD := pmD (show List.Perm (α := Nat × va_E) (([(o, .inl (dA 2, 1, .inr (.inl og)))] : va_W) ++ (MW dA mm mad M ++ (VW dA h ad u8))) (([(o, .inl (dA 2, 1, .inr (.inl og)))] : va_W) ++ (VW dA h ad u8 ++ (MW dA mm mad M))) from List.Perm.append_left (([(o, .inl (dA 2, 1, .inr (.inl og)))] : va_W)) (List.perm_append_comm)) hD
  have hPc : va_P D vwCl (MW dA mm mad M) H := spP (wr := ([(o, .inl (dA 2, 1, .inr (.inl og)))] : va_W) ++ (VW dA h ad u8)) hP
  have hDc : va_D A (MW dA mm mad M) := spD (wr := ([(o, .inl (dA 2, 1, .inr (.inl og)))] : va_W) ++ (VW dA h ad u8)) hD
  refine jkI (wr := ([(o, .inl (dA 2, 1, .inr (.inl og)))] : va_W) ++ (VW dA h ad u8)) (rnV (As := [.int (xs (i + 1)), .long ((((xs (i + 2)).toInt64) <<< ((32 : Int32).toInt64 &&& 63)) ||| (((xs (i + 3)).toInt64) &&& 4294967295)), .long ((((xs (i + 4)).toInt64) <<< ((32 : Int32).toInt64 &&& 63)) ||| (((xs (i + 5)).toInt64) &&& 4294967295))]) (rest := []) hx hb hml hown hE hK (hN _ _ hS) hPc hDc (hM H.size) (q0 := 0) rfl rfl w1858 w1857 w1859 w1860 w328 rfl rfl ⟨⟨by decide, by decide⟩, rfl⟩ ⟨(show fr2 + 1 ≤ 2048 by omega), (show 8 + (7 + 11) + lo2 ≤ 84000 by omega)⟩ rfl hl.1 rfl (Nat.le_of_ble_eq_true rfl) d_SeriesVaultLaw_law_820 ⟨(show cells + mc9 + 0 ≤ 601024 by omega), (show slots + ms9 + 0 ≤ 7293034 by omega)⟩) hP hD hS hA (fun r7 u7 H locs hp9 hP hD hS => ?_)
  replace hp9 : b9 = r7 := Eq.symm hp9
  subst hp9
  have hP : va_P D vwCl (([(o, .inl (dA 2, 1, .inr (.inl og)))] : va_W) ++ (VW dA h ad u8 ++ (MW dA mm mad M1))) H := hP
  have hD : va_D A (([(o, .inl (dA 2, 1, .inr (.inl og)))] : va_W) ++ (VW dA h ad u8 ++ (MW dA mm mad M1))) := hD
  refine lv_istore hx hb d_SeriesVaultLaw_law_823 hl (by decide) rfl (fun ls hl => ?_)
  have hl : lv_has ls 8 [(6, .int b9), (5, .int (nI k9)), (4, .int (nI i)), (3, .ref o), (2, .ref mm), (1, .ref h), (0, .ref b)] := hl
  refine lv_aload_n hx hb d_SeriesVaultLaw_law_825 rfl (lv_at hl 4 rfl) ?_
  have hPc : va_P D vwCl (MW dA mm mad M1) H := spP (wr := ([(o, .inl (dA 2, 1, .inr (.inl og)))] : va_W) ++ (VW dA h ad u8)) hP
  have hDc : va_D A (MW dA mm mad M1) := spD (wr := ([(o, .inl (dA 2, 1, .inr (.inl og)))] : va_W) ++ (VW dA h ad u8)) hD
  refine jkI (wr := ([(o, .inl (dA 2, 1, .inr (.inl og)))] : va_W) ++ (VW dA h ad u8)) (rnV (As := []) (rest := []) hx hb hml hown hE hK (hN _ _ hS) hPc hDc (k_thrown l D dA H.size mm mad M1) (q0 := 0) rfl rfl w1801 w1800 w1802 w1803 w328 rfl rfl ⟨⟨by decide, by decide⟩, rfl⟩ ⟨(show 1 + 1 ≤ 2048 by omega), (show 8 + (1 + 11) + 0 ≤ 84000 by omega)⟩ rfl hl.1 rfl (Nat.le_of_ble_eq_true rfl) d_SeriesVaultLaw_law_826 ⟨(show cells + mc9 + 0 ≤ 601024 by omega), (show slots + ms9 + 0 ≤ 7293034 by omega)⟩) hP hD hS hA (fun r7 u7 H locs hp9 hP hD hS => ?_)
  replace hp9 : nI k9 = r7 := Eq.symm (hp9.trans hcod)
  subst hp9
  have hP : va_P D vwCl (([(o, .inl (dA 2, 1, .inr (.inl og)))] : va_W) ++ (VW dA h ad u8 ++ (MW dA mm mad M1))) H := hP
  have hD : va_D A (([(o, .inl (dA 2, 1, .inr (.inl og)))] : va_W) ++ (VW dA h ad u8 ++ (MW dA mm mad M1))) := hD
  refine lv_iload hx hb d_SeriesVaultLaw_law_829 (lv_at hl 1 rfl) ?_
  refine lv_icmp_eq hx hb d_SeriesVaultLaw_law_831 (tgt := 836) rfl (fun _ => ?_) (fun h9 => absurd rfl h9)
  refine lv_iload hx hb d_SeriesVaultLaw_law_836 (lv_at hl 1 rfl) ?_
  refine lv_if_ne hx hb d_SeriesVaultLaw_law_838 (tgt := 853) rfl (fun _ => ?_) (fun h9 => absurd h9 hk9)
  refine lv_goto hx hb d_SeriesVaultLaw_law_853 (tgt := 1770) rfl ?_
  refine lv_iinc (k := 2) (v := nI (i + 6)) hx hb d_SeriesVaultLaw_law_1770 hl rfl (iincN (i) 6 6 (by decide)) (by decide) rfl (fun ls hl => ?_)
  have hl : lv_has ls 8 [(4, .int (nI (i + 6))), (6, .int b9), (5, .int (nI k9)), (3, .ref o), (2, .ref mm), (1, .ref h), (0, .ref b)] := hl
  refine lv_goto hx hb d_SeriesVaultLaw_law_1773 (tgt := 23) rfl ?_
  have hP := pmP (show List.Perm (α := Nat × va_E) (([(o, .inl (dA 2, 1, .inr (.inl og)))] : va_W) ++ (VW dA h ad u8 ++ (MW dA mm mad M1))) (MW dA mm mad M1 ++ (([(o, .inl (dA 2, 1, .inr (.inl og)))] : va_W) ++ (VW dA h ad u8))) from (List.Perm.append_left (([(o, .inl (dA 2, 1, .inr (.inl og)))] : va_W)) (List.perm_append_comm)).trans (List.perm_append_comm_assoc (([(o, .inl (dA 2, 1, .inr (.inl og)))] : va_W)) (MW dA mm mad M1) (VW dA h ad u8))) hP
  have hD := pmD (show List.Perm (α := Nat × va_E) (([(o, .inl (dA 2, 1, .inr (.inl og)))] : va_W) ++ (VW dA h ad u8 ++ (MW dA mm mad M1))) (MW dA mm mad M1 ++ (([(o, .inl (dA 2, 1, .inr (.inl og)))] : va_W) ++ (VW dA h ad u8))) from (List.Perm.append_left (([(o, .inl (dA 2, 1, .inr (.inl og)))] : va_W)) (List.perm_append_comm)).trans (List.perm_append_comm_assoc (([(o, .inl (dA 2, 1, .inr (.inl og)))] : va_W)) (MW dA mm mad M1) (VW dA h ad u8))) hD
  have hP : va_P D vwCl (MW dA mm mad M1 ++ (([(o, .inl (dA 2, 1, .inr (.inl og)))] : va_W) ++ (VW dA h ad u8))) H := hP
  have hD : va_D A (MW dA mm mad M1 ++ (([(o, .inl (dA 2, 1, .inr (.inl og)))] : va_W) ++ (VW dA h ad u8))) := hD
  have hl := lv_sub (l' := [(4, .int (nI (i + 6))), (3, .ref o), (2, .ref mm), (1, .ref h), (0, .ref b)]) hl [0, 3, 4, 5, 6] rfl
  exact cont u8 H locs ls hf9 hP hD hS hl
end
