-- THE LAW: its cases
section LC
variable {p : Program} {l : Launch} {e : Env} {s : State} {m : MethodId} {below : List Frame} {meth : Method} {c : Code} {b L : Nat} {xs : Nat → Int32} {α : Nat → Nat → Nat} {cy : jm_C} {D : va_G} {H : Heap} {locs : List Loc} {ls : Array Slot} {σ σ1 : jm_S} {cells slots : Nat} {Q : State → Prop}
theorem lwc_0 (X : LX α cy D p s m meth c b L xs) (hL : L ≤ 3072) {i : Nat} (hi : i + 5 < L) {A : aS} (hA : okA A) (hc : cRel σ A) (hr : rRel σ A) (hH : jm_H α cy D (nA s) s σ H locs) (hl : lv_has ls 4 [(0, .ref b), (1, .ref (α 0 0)), (2, .ref (α 21 0)), (3, .int (nI i))]) (hcs : cells ≤ 600000 ∧ slots ≤ 7302250) (next : ∀ (A : aS) (σ : jm_S) (H : Heap) (locs : List Loc), okA A → cRel σ A → rRel σ A → jm_H α cy D (nA s) s σ H locs → W p l e room_1 s m #[Value.ref b] below meth c H locs cells slots Q (F0 m 1181 ls [])) : W p l e room_1 s m #[Value.ref b] below meth c H locs cells slots Q (F0 m 180 ls []) := by
  obtain ⟨hx, hb, -, -, -, -, -, -, -, -⟩ := X.1
  obtain ⟨v, A', hA', hcc, hrr⟩ := P_row hA (xs (i + 1)) (xs (i + 2)) (xs (i + 3))
  obtain ⟨σ1, c1, c2, c3⟩ := hcc σ hc
  obtain ⟨σ2, r1, r2, r3⟩ := hrr σ1 (hr.fr c3)
  obtain ⟨x, rfl⟩ := jm_call_I (M := jD_row) (by decide +kernel) c1
  refine lv_aload_n hx hb d_law_180 rfl (lv_at hl 1 rfl) ?_
  refine lw_ld (lv := []) (k := 1) X hH (lv_at hl 0 rfl) (lv_at hl 3 rfl) (by decide) (by omega) hL d_law_181 d_law_182 d_law_183 d_law_184 d_law_185 ?_
  refine lw_ld (lv := []) (k := 2) X hH (lv_at hl 0 rfl) (lv_at hl 3 rfl) (by decide) (by omega) hL d_law_186 d_law_187 d_law_188 d_law_189 d_law_190 ?_
  refine lw_ld (lv := []) (k := 3) X hH (lv_at hl 0 rfl) (lv_at hl 3 rfl) (by decide) (by omega) hL d_law_191 d_law_192 d_law_193 d_law_194 d_law_195 ?_
  refine lw_cv (na := 3) (as := [jm_I (xs (i + 1)), jm_I (xs (i + 2)), jm_I (xs (i + 3))]) (st := []) (k := 0) X jm_o34 (jm_in (List.mem_of_getElem? (i := 167) (by decide +kernel))) (jm_in (List.mem_of_getElem? (i := 168) (by decide +kernel))) (jm_in (List.mem_of_getElem? (i := 169) (by decide +kernel))) (jm_in (List.mem_of_getElem? (i := 1) (by decide +kernel))) (by decide +kernel) rfl (Or.inl ⟨by decide, by decide⟩) (⟨trivial, ⟨trivial, ⟨trivial, trivial⟩⟩⟩) rfl (Nat.le_of_ble_eq_true rfl) (Nat.le_of_ble_eq_true rfl) hl.1 c1 hH d_law_196 (fun H locs hH => ?_) hcs
  refine lv_aload_n hx hb d_law_199 rfl (lv_at hl 2 rfl) ?_
  refine lw_ld (lv := []) (k := 1) X hH (lv_at hl 0 rfl) (lv_at hl 3 rfl) (by decide) (by omega) hL d_law_200 d_law_201 d_law_202 d_law_203 d_law_204 ?_
  refine lw_ld (lv := []) (k := 2) X hH (lv_at hl 0 rfl) (lv_at hl 3 rfl) (by decide) (by omega) hL d_law_205 d_law_206 d_law_207 d_law_208 d_law_209 ?_
  refine lw_ld (lv := []) (k := 3) X hH (lv_at hl 0 rfl) (lv_at hl 3 rfl) (by decide) (by omega) hL d_law_210 d_law_211 d_law_212 d_law_213 d_law_214 ?_
  refine lw_cv (na := 3) (as := [jm_I (xs (i + 1)), jm_I (xs (i + 2)), jm_I (xs (i + 3))]) (st := [jm_cv α (jm_I x)]) (k := 21) X jm_o94 (jm_in (List.mem_of_getElem? (i := 669) (by decide +kernel))) (jm_in (List.mem_of_getElem? (i := 670) (by decide +kernel))) (jm_in (List.mem_of_getElem? (i := 671) (by decide +kernel))) (jm_in (List.mem_of_getElem? (i := 6) (by decide +kernel))) (by decide +kernel) rfl (Or.inl ⟨by decide, by decide⟩) (⟨trivial, ⟨trivial, ⟨trivial, trivial⟩⟩⟩) rfl (Nat.le_of_ble_eq_true rfl) (Nat.le_of_ble_eq_true rfl) hl.1 r1 hH d_law_215 (fun H locs hH => ?_) hcs
  refine lv_icmp_eq (tgt := 1181) hx hb d_law_218 (by decide) (fun _ => next A' σ2 _ _ hA' (c2.fr r3) r2 hH) (fun h9 => absurd rfl h9)
theorem lwc_1 (X : LX α cy D p s m meth c b L xs) (hL : L ≤ 3072) {i : Nat} (hi : i + 5 < L) {A : aS} (hA : okA A) (hc : cRel σ A) (hr : rRel σ A) (hH : jm_H α cy D (nA s) s σ H locs) (hl : lv_has ls 4 [(0, .ref b), (1, .ref (α 0 0)), (2, .ref (α 21 0)), (3, .int (nI i))]) (hcs : cells ≤ 600000 ∧ slots ≤ 7302250) (next : ∀ (A : aS) (σ : jm_S) (H : Heap) (locs : List Loc), okA A → cRel σ A → rRel σ A → jm_H α cy D (nA s) s σ H locs → W p l e room_1 s m #[Value.ref b] below meth c H locs cells slots Q (F0 m 1181 ls [])) : W p l e room_1 s m #[Value.ref b] below meth c H locs cells slots Q (F0 m 223 ls []) := by
  obtain ⟨hx, hb, -, -, -, -, -, -, -, -⟩ := X.1
  obtain ⟨v, A', hA', hcc, hrr⟩ := P_set hA (xs (i + 1)) (xs (i + 2)) (xs (i + 3))
  obtain ⟨σ1, c1, c2, c3⟩ := hcc σ hc
  obtain ⟨σ2, r1, r2, r3⟩ := hrr σ1 (hr.fr c3)
  obtain ⟨x, rfl⟩ := jm_call_I (M := jD_set) (by decide +kernel) c1
  refine lv_aload_n hx hb d_law_223 rfl (lv_at hl 1 rfl) ?_
  refine lw_ld (lv := []) (k := 1) X hH (lv_at hl 0 rfl) (lv_at hl 3 rfl) (by decide) (by omega) hL d_law_224 d_law_225 d_law_226 d_law_227 d_law_228 ?_
  refine lw_ld (lv := []) (k := 2) X hH (lv_at hl 0 rfl) (lv_at hl 3 rfl) (by decide) (by omega) hL d_law_229 d_law_230 d_law_231 d_law_232 d_law_233 ?_
  refine lw_ld (lv := []) (k := 3) X hH (lv_at hl 0 rfl) (lv_at hl 3 rfl) (by decide) (by omega) hL d_law_234 d_law_235 d_law_236 d_law_237 d_law_238 ?_
  refine lw_cv (na := 3) (as := [jm_I (xs (i + 1)), jm_I (xs (i + 2)), jm_I (xs (i + 3))]) (st := []) (k := 0) X jm_o35 (jm_in (List.mem_of_getElem? (i := 184) (by decide +kernel))) (jm_in (List.mem_of_getElem? (i := 185) (by decide +kernel))) (jm_in (List.mem_of_getElem? (i := 186) (by decide +kernel))) (jm_in (List.mem_of_getElem? (i := 1) (by decide +kernel))) (by decide +kernel) rfl (Or.inl ⟨by decide, by decide⟩) (⟨trivial, ⟨trivial, ⟨trivial, trivial⟩⟩⟩) rfl (Nat.le_of_ble_eq_true rfl) (Nat.le_of_ble_eq_true rfl) hl.1 c1 hH d_law_239 (fun H locs hH => ?_) hcs
  refine lv_aload_n hx hb d_law_242 rfl (lv_at hl 2 rfl) ?_
  refine lw_ld (lv := []) (k := 1) X hH (lv_at hl 0 rfl) (lv_at hl 3 rfl) (by decide) (by omega) hL d_law_243 d_law_244 d_law_245 d_law_246 d_law_247 ?_
  refine lw_ld (lv := []) (k := 2) X hH (lv_at hl 0 rfl) (lv_at hl 3 rfl) (by decide) (by omega) hL d_law_248 d_law_249 d_law_250 d_law_251 d_law_252 ?_
  refine lw_ld (lv := []) (k := 3) X hH (lv_at hl 0 rfl) (lv_at hl 3 rfl) (by decide) (by omega) hL d_law_253 d_law_254 d_law_255 d_law_256 d_law_257 ?_
  refine lw_cv (na := 3) (as := [jm_I (xs (i + 1)), jm_I (xs (i + 2)), jm_I (xs (i + 3))]) (st := [jm_cv α (jm_I x)]) (k := 21) X jm_o95 (jm_in (List.mem_of_getElem? (i := 687) (by decide +kernel))) (jm_in (List.mem_of_getElem? (i := 688) (by decide +kernel))) (jm_in (List.mem_of_getElem? (i := 689) (by decide +kernel))) (jm_in (List.mem_of_getElem? (i := 6) (by decide +kernel))) (by decide +kernel) rfl (Or.inl ⟨by decide, by decide⟩) (⟨trivial, ⟨trivial, ⟨trivial, trivial⟩⟩⟩) rfl (Nat.le_of_ble_eq_true rfl) (Nat.le_of_ble_eq_true rfl) hl.1 r1 hH d_law_258 (fun H locs hH => ?_) hcs
  refine lv_icmp_eq (tgt := 1181) hx hb d_law_261 (by decide) (fun _ => next A' σ2 _ _ hA' (c2.fr r3) r2 hH) (fun h9 => absurd rfl h9)
theorem lwc_2 (X : LX α cy D p s m meth c b L xs) (hL : L ≤ 3072) {i : Nat} (hi : i + 5 < L) {A : aS} (hA : okA A) (hc : cRel σ A) (hr : rRel σ A) (hH : jm_H α cy D (nA s) s σ H locs) (hl : lv_has ls 4 [(0, .ref b), (1, .ref (α 0 0)), (2, .ref (α 21 0)), (3, .int (nI i))]) (hcs : cells ≤ 600000 ∧ slots ≤ 7302250) (next : ∀ (A : aS) (σ : jm_S) (H : Heap) (locs : List Loc), okA A → cRel σ A → rRel σ A → jm_H α cy D (nA s) s σ H locs → W p l e room_1 s m #[Value.ref b] below meth c H locs cells slots Q (F0 m 1181 ls [])) : W p l e room_1 s m #[Value.ref b] below meth c H locs cells slots Q (F0 m 266 ls []) := by
  obtain ⟨hx, hb, -, -, -, -, -, -, -, -⟩ := X.1
  obtain ⟨v, A', hA', hcc, hrr⟩ := P_copy hA (xs (i + 1)) (xs (i + 2)) (xs (i + 3)) (xs (i + 4)) (xs (i + 5))
  obtain ⟨σ1, c1, c2, c3⟩ := hcc σ hc
  obtain ⟨σ2, r1, r2, r3⟩ := hrr σ1 (hr.fr c3)
  obtain ⟨x, rfl⟩ := jm_call_I (M := jD_copy) (by decide +kernel) c1
  refine lv_aload_n hx hb d_law_266 rfl (lv_at hl 1 rfl) ?_
  refine lw_ld (lv := []) (k := 1) X hH (lv_at hl 0 rfl) (lv_at hl 3 rfl) (by decide) (by omega) hL d_law_267 d_law_268 d_law_269 d_law_270 d_law_271 ?_
  refine lw_ld (lv := []) (k := 2) X hH (lv_at hl 0 rfl) (lv_at hl 3 rfl) (by decide) (by omega) hL d_law_272 d_law_273 d_law_274 d_law_275 d_law_276 ?_
  refine lw_ld (lv := []) (k := 3) X hH (lv_at hl 0 rfl) (lv_at hl 3 rfl) (by decide) (by omega) hL d_law_277 d_law_278 d_law_279 d_law_280 d_law_281 ?_
  refine lw_ld (lv := []) (k := 4) X hH (lv_at hl 0 rfl) (lv_at hl 3 rfl) (by decide) (by omega) hL d_law_282 d_law_283 d_law_284 d_law_285 d_law_286 ?_
  refine lw_ld (lv := []) (k := 5) X hH (lv_at hl 0 rfl) (lv_at hl 3 rfl) (by decide) (by omega) hL d_law_287 d_law_288 d_law_289 d_law_290 d_law_291 ?_
  refine lw_cv (na := 5) (as := [jm_I (xs (i + 1)), jm_I (xs (i + 2)), jm_I (xs (i + 3)), jm_I (xs (i + 4)), jm_I (xs (i + 5))]) (st := []) (k := 0) X jm_o36 (jm_in (List.mem_of_getElem? (i := 199) (by decide +kernel))) (jm_in (List.mem_of_getElem? (i := 200) (by decide +kernel))) (jm_in (List.mem_of_getElem? (i := 201) (by decide +kernel))) (jm_in (List.mem_of_getElem? (i := 1) (by decide +kernel))) (by decide +kernel) rfl (Or.inl ⟨by decide, by decide⟩) (⟨trivial, ⟨trivial, ⟨trivial, ⟨trivial, ⟨trivial, trivial⟩⟩⟩⟩⟩) rfl (Nat.le_of_ble_eq_true rfl) (Nat.le_of_ble_eq_true rfl) hl.1 c1 hH d_law_292 (fun H locs hH => ?_) hcs
  refine lv_aload_n hx hb d_law_295 rfl (lv_at hl 2 rfl) ?_
  refine lw_ld (lv := []) (k := 1) X hH (lv_at hl 0 rfl) (lv_at hl 3 rfl) (by decide) (by omega) hL d_law_296 d_law_297 d_law_298 d_law_299 d_law_300 ?_
  refine lw_ld (lv := []) (k := 2) X hH (lv_at hl 0 rfl) (lv_at hl 3 rfl) (by decide) (by omega) hL d_law_301 d_law_302 d_law_303 d_law_304 d_law_305 ?_
  refine lw_ld (lv := []) (k := 3) X hH (lv_at hl 0 rfl) (lv_at hl 3 rfl) (by decide) (by omega) hL d_law_306 d_law_307 d_law_308 d_law_309 d_law_310 ?_
  refine lw_ld (lv := []) (k := 4) X hH (lv_at hl 0 rfl) (lv_at hl 3 rfl) (by decide) (by omega) hL d_law_311 d_law_312 d_law_313 d_law_314 d_law_315 ?_
  refine lw_ld (lv := []) (k := 5) X hH (lv_at hl 0 rfl) (lv_at hl 3 rfl) (by decide) (by omega) hL d_law_316 d_law_317 d_law_318 d_law_319 d_law_320 ?_
  refine lw_cv (na := 5) (as := [jm_I (xs (i + 1)), jm_I (xs (i + 2)), jm_I (xs (i + 3)), jm_I (xs (i + 4)), jm_I (xs (i + 5))]) (st := [jm_cv α (jm_I x)]) (k := 21) X jm_o96 (jm_in (List.mem_of_getElem? (i := 691) (by decide +kernel))) (jm_in (List.mem_of_getElem? (i := 692) (by decide +kernel))) (jm_in (List.mem_of_getElem? (i := 693) (by decide +kernel))) (jm_in (List.mem_of_getElem? (i := 6) (by decide +kernel))) (by decide +kernel) rfl (Or.inl ⟨by decide, by decide⟩) (⟨trivial, ⟨trivial, ⟨trivial, ⟨trivial, ⟨trivial, trivial⟩⟩⟩⟩⟩) rfl (Nat.le_of_ble_eq_true rfl) (Nat.le_of_ble_eq_true rfl) hl.1 r1 hH d_law_321 (fun H locs hH => ?_) hcs
  refine lv_icmp_eq (tgt := 1181) hx hb d_law_324 (by decide) (fun _ => next A' σ2 _ _ hA' (c2.fr r3) r2 hH) (fun h9 => absurd rfl h9)
theorem lwc_3 (X : LX α cy D p s m meth c b L xs) (hL : L ≤ 3072) {i : Nat} (hi : i + 5 < L) {A : aS} (hA : okA A) (hc : cRel σ A) (hr : rRel σ A) (hH : jm_H α cy D (nA s) s σ H locs) (hl : lv_has ls 4 [(0, .ref b), (1, .ref (α 0 0)), (2, .ref (α 21 0)), (3, .int (nI i))]) (hcs : cells ≤ 600000 ∧ slots ≤ 7302250) (next : ∀ (A : aS) (σ : jm_S) (H : Heap) (locs : List Loc), okA A → cRel σ A → rRel σ A → jm_H α cy D (nA s) s σ H locs → W p l e room_1 s m #[Value.ref b] below meth c H locs cells slots Q (F0 m 1181 ls [])) : W p l e room_1 s m #[Value.ref b] below meth c H locs cells slots Q (F0 m 329 ls []) := by
  obtain ⟨hx, hb, -, -, -, -, -, -, -, -⟩ := X.1
  obtain ⟨v, A', hA', hcc, hrr⟩ := P_drop hA (xs (i + 1))
  obtain ⟨σ1, c1, c2, c3⟩ := hcc σ hc
  obtain ⟨σ2, r1, r2, r3⟩ := hrr σ1 (hr.fr c3)
  obtain ⟨x, rfl⟩ := jm_call_I (M := jD_drop) (by decide +kernel) c1
  refine lv_aload_n hx hb d_law_329 rfl (lv_at hl 1 rfl) ?_
  refine lw_ld (lv := []) (k := 1) X hH (lv_at hl 0 rfl) (lv_at hl 3 rfl) (by decide) (by omega) hL d_law_330 d_law_331 d_law_332 d_law_333 d_law_334 ?_
  refine lw_cv (na := 1) (as := [jm_I (xs (i + 1))]) (st := []) (k := 0) X jm_o37 (jm_in (List.mem_of_getElem? (i := 206) (by decide +kernel))) (jm_in (List.mem_of_getElem? (i := 207) (by decide +kernel))) (jm_in (List.mem_of_getElem? (i := 208) (by decide +kernel))) (jm_in (List.mem_of_getElem? (i := 1) (by decide +kernel))) (by decide +kernel) rfl (Or.inl ⟨by decide, by decide⟩) (⟨trivial, trivial⟩) rfl (Nat.le_of_ble_eq_true rfl) (Nat.le_of_ble_eq_true rfl) hl.1 c1 hH d_law_335 (fun H locs hH => ?_) hcs
  refine lv_aload_n hx hb d_law_338 rfl (lv_at hl 2 rfl) ?_
  refine lw_ld (lv := []) (k := 1) X hH (lv_at hl 0 rfl) (lv_at hl 3 rfl) (by decide) (by omega) hL d_law_339 d_law_340 d_law_341 d_law_342 d_law_343 ?_
  refine lw_cv (na := 1) (as := [jm_I (xs (i + 1))]) (st := [jm_cv α (jm_I x)]) (k := 21) X jm_o97 (jm_in (List.mem_of_getElem? (i := 695) (by decide +kernel))) (jm_in (List.mem_of_getElem? (i := 696) (by decide +kernel))) (jm_in (List.mem_of_getElem? (i := 697) (by decide +kernel))) (jm_in (List.mem_of_getElem? (i := 6) (by decide +kernel))) (by decide +kernel) rfl (Or.inl ⟨by decide, by decide⟩) (⟨trivial, trivial⟩) rfl (Nat.le_of_ble_eq_true rfl) (Nat.le_of_ble_eq_true rfl) hl.1 r1 hH d_law_344 (fun H locs hH => ?_) hcs
  refine lv_icmp_eq (tgt := 1181) hx hb d_law_347 (by decide) (fun _ => next A' σ2 _ _ hA' (c2.fr r3) r2 hH) (fun h9 => absurd rfl h9)
theorem lwc_4 (X : LX α cy D p s m meth c b L xs) (hL : L ≤ 3072) {i : Nat} (hi : i + 5 < L) {A : aS} (hA : okA A) (hc : cRel σ A) (hr : rRel σ A) (hH : jm_H α cy D (nA s) s σ H locs) (hl : lv_has ls 4 [(0, .ref b), (1, .ref (α 0 0)), (2, .ref (α 21 0)), (3, .int (nI i))]) (hcs : cells ≤ 600000 ∧ slots ≤ 7302250) (next : ∀ (A : aS) (σ : jm_S) (H : Heap) (locs : List Loc), okA A → cRel σ A → rRel σ A → jm_H α cy D (nA s) s σ H locs → W p l e room_1 s m #[Value.ref b] below meth c H locs cells slots Q (F0 m 1181 ls [])) : W p l e room_1 s m #[Value.ref b] below meth c H locs cells slots Q (F0 m 352 ls []) := by
  obtain ⟨hx, hb, -, -, -, -, -, -, -, -⟩ := X.1
  obtain ⟨v, A', hA', hcc, hrr⟩ := P_feed hA (xs (i + 1))
  obtain ⟨σ1, c1, c2, c3⟩ := hcc σ hc
  obtain ⟨σ2, r1, r2, r3⟩ := hrr σ1 (hr.fr c3)
  obtain ⟨x, rfl⟩ := jm_call_I (M := jD_feed) (by decide +kernel) c1
  refine lv_aload_n hx hb d_law_352 rfl (lv_at hl 1 rfl) ?_
  refine lw_ld (lv := []) (k := 1) X hH (lv_at hl 0 rfl) (lv_at hl 3 rfl) (by decide) (by omega) hL d_law_353 d_law_354 d_law_355 d_law_356 d_law_357 ?_
  refine lw_cv (na := 1) (as := [jm_I (xs (i + 1))]) (st := []) (k := 0) X jm_o42 (jm_in (List.mem_of_getElem? (i := 210) (by decide +kernel))) (jm_in (List.mem_of_getElem? (i := 211) (by decide +kernel))) (jm_in (List.mem_of_getElem? (i := 212) (by decide +kernel))) (jm_in (List.mem_of_getElem? (i := 1) (by decide +kernel))) (by decide +kernel) rfl (Or.inl ⟨by decide, by decide⟩) (⟨trivial, trivial⟩) rfl (Nat.le_of_ble_eq_true rfl) (Nat.le_of_ble_eq_true rfl) hl.1 c1 hH d_law_358 (fun H locs hH => ?_) hcs
  refine lv_aload_n hx hb d_law_361 rfl (lv_at hl 2 rfl) ?_
  refine lw_ld (lv := []) (k := 1) X hH (lv_at hl 0 rfl) (lv_at hl 3 rfl) (by decide) (by omega) hL d_law_362 d_law_363 d_law_364 d_law_365 d_law_366 ?_
  refine lw_cv (na := 1) (as := [jm_I (xs (i + 1))]) (st := [jm_cv α (jm_I x)]) (k := 21) X jm_o98 (jm_in (List.mem_of_getElem? (i := 699) (by decide +kernel))) (jm_in (List.mem_of_getElem? (i := 700) (by decide +kernel))) (jm_in (List.mem_of_getElem? (i := 701) (by decide +kernel))) (jm_in (List.mem_of_getElem? (i := 6) (by decide +kernel))) (by decide +kernel) rfl (Or.inl ⟨by decide, by decide⟩) (⟨trivial, trivial⟩) rfl (Nat.le_of_ble_eq_true rfl) (Nat.le_of_ble_eq_true rfl) hl.1 r1 hH d_law_367 (fun H locs hH => ?_) hcs
  refine lv_icmp_eq (tgt := 1181) hx hb d_law_370 (by decide) (fun _ => next A' σ2 _ _ hA' (c2.fr r3) r2 hH) (fun h9 => absurd rfl h9)
theorem lwc_5 (X : LX α cy D p s m meth c b L xs) (hL : L ≤ 3072) {i : Nat} (hi : i + 5 < L) {A : aS} (hA : okA A) (hc : cRel σ A) (hr : rRel σ A) (hH : jm_H α cy D (nA s) s σ H locs) (hl : lv_has ls 4 [(0, .ref b), (1, .ref (α 0 0)), (2, .ref (α 21 0)), (3, .int (nI i))]) (hcs : cells ≤ 600000 ∧ slots ≤ 7302250) (next : ∀ (A : aS) (σ : jm_S) (H : Heap) (locs : List Loc), okA A → cRel σ A → rRel σ A → jm_H α cy D (nA s) s σ H locs → W p l e room_1 s m #[Value.ref b] below meth c H locs cells slots Q (F0 m 1181 ls [])) : W p l e room_1 s m #[Value.ref b] below meth c H locs cells slots Q (F0 m 375 ls []) := by
  obtain ⟨hx, hb, -, -, -, -, -, -, -, -⟩ := X.1
  obtain ⟨v, A', hA', hcc, hrr⟩ := P_shaft hA
  obtain ⟨σ1, c1, c2, c3⟩ := hcc σ hc
  obtain ⟨σ2, r1, r2, r3⟩ := hrr σ1 (hr.fr c3)
  obtain ⟨x, rfl⟩ := jm_call_I (M := jD_shaft) (by decide +kernel) c1
  refine lv_aload_n hx hb d_law_375 rfl (lv_at hl 1 rfl) ?_
  refine lw_cv (na := 0) (as := []) (st := []) (k := 0) X jm_o43 (jm_in (List.mem_of_getElem? (i := 219) (by decide +kernel))) (jm_in (List.mem_of_getElem? (i := 220) (by decide +kernel))) (jm_in (List.mem_of_getElem? (i := 221) (by decide +kernel))) (jm_in (List.mem_of_getElem? (i := 1) (by decide +kernel))) (by decide +kernel) rfl (Or.inl ⟨by decide, by decide⟩) trivial rfl (Nat.le_of_ble_eq_true rfl) (Nat.le_of_ble_eq_true rfl) hl.1 c1 hH d_law_376 (fun H locs hH => ?_) hcs
  refine lv_aload_n hx hb d_law_379 rfl (lv_at hl 2 rfl) ?_
  refine lw_cv (na := 0) (as := []) (st := [jm_cv α (jm_I x)]) (k := 21) X jm_o111 (jm_in (List.mem_of_getElem? (i := 709) (by decide +kernel))) (jm_in (List.mem_of_getElem? (i := 710) (by decide +kernel))) (jm_in (List.mem_of_getElem? (i := 711) (by decide +kernel))) (jm_in (List.mem_of_getElem? (i := 6) (by decide +kernel))) (by decide +kernel) rfl (Or.inl ⟨by decide, by decide⟩) trivial rfl (Nat.le_of_ble_eq_true rfl) (Nat.le_of_ble_eq_true rfl) hl.1 r1 hH d_law_380 (fun H locs hH => ?_) hcs
  refine lv_icmp_eq (tgt := 1181) hx hb d_law_383 (by decide) (fun _ => next A' σ2 _ _ hA' (c2.fr r3) r2 hH) (fun h9 => absurd rfl h9)
theorem lwc_6 (X : LX α cy D p s m meth c b L xs) (hL : L ≤ 3072) {i : Nat} (hi : i + 5 < L) {A : aS} (hA : okA A) (hc : cRel σ A) (hr : rRel σ A) (hH : jm_H α cy D (nA s) s σ H locs) (hl : lv_has ls 4 [(0, .ref b), (1, .ref (α 0 0)), (2, .ref (α 21 0)), (3, .int (nI i))]) (hcs : cells ≤ 600000 ∧ slots ≤ 7302250) (next : ∀ (A : aS) (σ : jm_S) (H : Heap) (locs : List Loc), okA A → cRel σ A → rRel σ A → jm_H α cy D (nA s) s σ H locs → W p l e room_1 s m #[Value.ref b] below meth c H locs cells slots Q (F0 m 1181 ls [])) : W p l e room_1 s m #[Value.ref b] below meth c H locs cells slots Q (F0 m 388 ls []) := by
  obtain ⟨hx, hb, -, -, -, -, -, -, -, -⟩ := X.1
  obtain ⟨v, A', hA', hcc, hrr⟩ := P_fault hA
  obtain ⟨σ1, c1, c2, c3⟩ := hcc σ hc
  obtain ⟨σ2, r1, r2, r3⟩ := hrr σ1 (hr.fr c3)
  obtain ⟨x, rfl⟩ := jm_call_I (M := jD_fault) (by decide +kernel) c1
  refine lv_aload_n hx hb d_law_388 rfl (lv_at hl 1 rfl) ?_
  refine lw_cv (na := 0) (as := []) (st := []) (k := 0) X jm_o44 (jm_in (List.mem_of_getElem? (i := 278) (by decide +kernel))) (jm_in (List.mem_of_getElem? (i := 279) (by decide +kernel))) (jm_in (List.mem_of_getElem? (i := 280) (by decide +kernel))) (jm_in (List.mem_of_getElem? (i := 1) (by decide +kernel))) (by decide +kernel) rfl (Or.inl ⟨by decide, by decide⟩) trivial rfl (Nat.le_of_ble_eq_true rfl) (Nat.le_of_ble_eq_true rfl) hl.1 c1 hH d_law_389 (fun H locs hH => ?_) hcs
  refine lv_aload_n hx hb d_law_392 rfl (lv_at hl 2 rfl) ?_
  refine lw_cv (na := 0) (as := []) (st := [jm_cv α (jm_I x)]) (k := 21) X jm_o107 (jm_in (List.mem_of_getElem? (i := 705) (by decide +kernel))) (jm_in (List.mem_of_getElem? (i := 706) (by decide +kernel))) (jm_in (List.mem_of_getElem? (i := 707) (by decide +kernel))) (jm_in (List.mem_of_getElem? (i := 6) (by decide +kernel))) (by decide +kernel) rfl (Or.inl ⟨by decide, by decide⟩) trivial rfl (Nat.le_of_ble_eq_true rfl) (Nat.le_of_ble_eq_true rfl) hl.1 r1 hH d_law_393 (fun H locs hH => ?_) hcs
  refine lv_icmp_eq (tgt := 1181) hx hb d_law_396 (by decide) (fun _ => next A' σ2 _ _ hA' (c2.fr r3) r2 hH) (fun h9 => absurd rfl h9)
theorem lwc_7 (X : LX α cy D p s m meth c b L xs) (hL : L ≤ 3072) {i : Nat} (hi : i + 5 < L) {A : aS} (hA : okA A) (hc : cRel σ A) (hr : rRel σ A) (hH : jm_H α cy D (nA s) s σ H locs) (hl : lv_has ls 4 [(0, .ref b), (1, .ref (α 0 0)), (2, .ref (α 21 0)), (3, .int (nI i))]) (hcs : cells ≤ 600000 ∧ slots ≤ 7302250) (next : ∀ (A : aS) (σ : jm_S) (H : Heap) (locs : List Loc), okA A → cRel σ A → rRel σ A → jm_H α cy D (nA s) s σ H locs → W p l e room_1 s m #[Value.ref b] below meth c H locs cells slots Q (F0 m 1181 ls [])) : W p l e room_1 s m #[Value.ref b] below meth c H locs cells slots Q (F0 m 401 ls []) := by
  obtain ⟨hx, hb, -, -, -, -, -, -, -, -⟩ := X.1
  obtain ⟨v, A', hA', hcc, hrr⟩ := P_undo hA
  obtain ⟨σ1, c1, c2, c3⟩ := hcc σ hc
  obtain ⟨σ2, r1, r2, r3⟩ := hrr σ1 (hr.fr c3)
  obtain ⟨x, rfl⟩ := jm_call_I (M := jD_undo) (by decide +kernel) c1
  refine lv_aload_n hx hb d_law_401 rfl (lv_at hl 1 rfl) ?_
  refine lw_cv (na := 0) (as := []) (st := []) (k := 0) X jm_o45 (jm_in (List.mem_of_getElem? (i := 282) (by decide +kernel))) (jm_in (List.mem_of_getElem? (i := 283) (by decide +kernel))) (jm_in (List.mem_of_getElem? (i := 284) (by decide +kernel))) (jm_in (List.mem_of_getElem? (i := 1) (by decide +kernel))) (by decide +kernel) rfl (Or.inl ⟨by decide, by decide⟩) trivial rfl (Nat.le_of_ble_eq_true rfl) (Nat.le_of_ble_eq_true rfl) hl.1 c1 hH d_law_402 (fun H locs hH => ?_) hcs
  refine lv_aload_n hx hb d_law_405 rfl (lv_at hl 2 rfl) ?_
  refine lw_cv (na := 0) (as := []) (st := [jm_cv α (jm_I x)]) (k := 21) X jm_o132 (jm_in (List.mem_of_getElem? (i := 798) (by decide +kernel))) (jm_in (List.mem_of_getElem? (i := 799) (by decide +kernel))) (jm_in (List.mem_of_getElem? (i := 800) (by decide +kernel))) (jm_in (List.mem_of_getElem? (i := 6) (by decide +kernel))) (by decide +kernel) rfl (Or.inl ⟨by decide, by decide⟩) trivial rfl (Nat.le_of_ble_eq_true rfl) (Nat.le_of_ble_eq_true rfl) hl.1 r1 hH d_law_406 (fun H locs hH => ?_) hcs
  refine lv_icmp_eq (tgt := 1181) hx hb d_law_409 (by decide) (fun _ => next A' σ2 _ _ hA' (c2.fr r3) r2 hH) (fun h9 => absurd rfl h9)
theorem lwc_8 (X : LX α cy D p s m meth c b L xs) (hL : L ≤ 3072) {i : Nat} (hi : i + 5 < L) {A : aS} (hA : okA A) (hc : cRel σ A) (hr : rRel σ A) (hH : jm_H α cy D (nA s) s σ H locs) (hl : lv_has ls 4 [(0, .ref b), (1, .ref (α 0 0)), (2, .ref (α 21 0)), (3, .int (nI i))]) (hcs : cells ≤ 600000 ∧ slots ≤ 7302250) (next : ∀ (A : aS) (σ : jm_S) (H : Heap) (locs : List Loc), okA A → cRel σ A → rRel σ A → jm_H α cy D (nA s) s σ H locs → W p l e room_1 s m #[Value.ref b] below meth c H locs cells slots Q (F0 m 1181 ls [])) : W p l e room_1 s m #[Value.ref b] below meth c H locs cells slots Q (F0 m 414 ls []) := by
  obtain ⟨hx, hb, -, -, -, -, -, -, -, -⟩ := X.1
  obtain ⟨v, A', hA', hcc, hrr⟩ := P_change hA (xs (i + 1)) (xs (i + 2)) (xs (i + 3))
  obtain ⟨σ1, c1, c2, c3⟩ := hcc σ hc
  obtain ⟨σ2, r1, r2, r3⟩ := hrr σ1 (hr.fr c3)
  obtain ⟨x, rfl⟩ := jm_call_I (M := jD_change) (by decide +kernel) c1
  refine lv_aload_n hx hb d_law_414 rfl (lv_at hl 1 rfl) ?_
  refine lw_ld (lv := []) (k := 1) X hH (lv_at hl 0 rfl) (lv_at hl 3 rfl) (by decide) (by omega) hL d_law_415 d_law_416 d_law_417 d_law_418 d_law_419 ?_
  refine lw_ld (lv := []) (k := 2) X hH (lv_at hl 0 rfl) (lv_at hl 3 rfl) (by decide) (by omega) hL d_law_420 d_law_421 d_law_422 d_law_423 d_law_424 ?_
  refine lw_ld (lv := []) (k := 3) X hH (lv_at hl 0 rfl) (lv_at hl 3 rfl) (by decide) (by omega) hL d_law_425 d_law_426 d_law_427 d_law_428 d_law_429 ?_
  refine lw_cv (na := 3) (as := [jm_I (xs (i + 1)), jm_I (xs (i + 2)), jm_I (xs (i + 3))]) (st := []) (k := 0) X jm_o46 (jm_in (List.mem_of_getElem? (i := 299) (by decide +kernel))) (jm_in (List.mem_of_getElem? (i := 300) (by decide +kernel))) (jm_in (List.mem_of_getElem? (i := 301) (by decide +kernel))) (jm_in (List.mem_of_getElem? (i := 1) (by decide +kernel))) (by decide +kernel) rfl (Or.inl ⟨by decide, by decide⟩) (⟨trivial, ⟨trivial, ⟨trivial, trivial⟩⟩⟩) rfl (Nat.le_of_ble_eq_true rfl) (Nat.le_of_ble_eq_true rfl) hl.1 c1 hH d_law_430 (fun H locs hH => ?_) hcs
  refine lv_aload_n hx hb d_law_433 rfl (lv_at hl 2 rfl) ?_
  refine lw_ld (lv := []) (k := 1) X hH (lv_at hl 0 rfl) (lv_at hl 3 rfl) (by decide) (by omega) hL d_law_434 d_law_435 d_law_436 d_law_437 d_law_438 ?_
  refine lw_ld (lv := []) (k := 2) X hH (lv_at hl 0 rfl) (lv_at hl 3 rfl) (by decide) (by omega) hL d_law_439 d_law_440 d_law_441 d_law_442 d_law_443 ?_
  refine lw_ld (lv := []) (k := 3) X hH (lv_at hl 0 rfl) (lv_at hl 3 rfl) (by decide) (by omega) hL d_law_444 d_law_445 d_law_446 d_law_447 d_law_448 ?_
  refine lw_cv (na := 3) (as := [jm_I (xs (i + 1)), jm_I (xs (i + 2)), jm_I (xs (i + 3))]) (st := [jm_cv α (jm_I x)]) (k := 21) X jm_o128 (jm_in (List.mem_of_getElem? (i := 762) (by decide +kernel))) (jm_in (List.mem_of_getElem? (i := 763) (by decide +kernel))) (jm_in (List.mem_of_getElem? (i := 764) (by decide +kernel))) (jm_in (List.mem_of_getElem? (i := 6) (by decide +kernel))) (by decide +kernel) rfl (Or.inl ⟨by decide, by decide⟩) (⟨trivial, ⟨trivial, ⟨trivial, trivial⟩⟩⟩) rfl (Nat.le_of_ble_eq_true rfl) (Nat.le_of_ble_eq_true rfl) hl.1 r1 hH d_law_449 (fun H locs hH => ?_) hcs
  refine lv_icmp_eq (tgt := 1181) hx hb d_law_452 (by decide) (fun _ => next A' σ2 _ _ hA' (c2.fr r3) r2 hH) (fun h9 => absurd rfl h9)
theorem lwc_9 (X : LX α cy D p s m meth c b L xs) (hL : L ≤ 3072) {i : Nat} (hi : i + 5 < L) {A : aS} (hA : okA A) (hc : cRel σ A) (hr : rRel σ A) (hH : jm_H α cy D (nA s) s σ H locs) (hl : lv_has ls 4 [(0, .ref b), (1, .ref (α 0 0)), (2, .ref (α 21 0)), (3, .int (nI i))]) (hcs : cells ≤ 600000 ∧ slots ≤ 7302250) (next : ∀ (A : aS) (σ : jm_S) (H : Heap) (locs : List Loc), okA A → cRel σ A → rRel σ A → jm_H α cy D (nA s) s σ H locs → W p l e room_1 s m #[Value.ref b] below meth c H locs cells slots Q (F0 m 1181 ls [])) : W p l e room_1 s m #[Value.ref b] below meth c H locs cells slots Q (F0 m 457 ls []) := by
  obtain ⟨hx, hb, -, -, -, -, -, -, -, -⟩ := X.1
  obtain ⟨v, A', hA', hcc, hrr⟩ := P_become hA (xs (i + 1)) (xs (i + 2))
  obtain ⟨σ1, c1, c2, c3⟩ := hcc σ hc
  obtain ⟨σ2, r1, r2, r3⟩ := hrr σ1 (hr.fr c3)
  obtain ⟨x, rfl⟩ := jm_call_I (M := jD_become) (by decide +kernel) c1
  refine lv_aload_n hx hb d_law_457 rfl (lv_at hl 1 rfl) ?_
  refine lw_ld (lv := []) (k := 1) X hH (lv_at hl 0 rfl) (lv_at hl 3 rfl) (by decide) (by omega) hL d_law_458 d_law_459 d_law_460 d_law_461 d_law_462 ?_
  refine lw_ld (lv := []) (k := 2) X hH (lv_at hl 0 rfl) (lv_at hl 3 rfl) (by decide) (by omega) hL d_law_463 d_law_464 d_law_465 d_law_466 d_law_467 ?_
  refine lw_cv (na := 2) (as := [jm_I (xs (i + 1)), jm_I (xs (i + 2))]) (st := []) (k := 0) X jm_o47 (jm_in (List.mem_of_getElem? (i := 319) (by decide +kernel))) (jm_in (List.mem_of_getElem? (i := 320) (by decide +kernel))) (jm_in (List.mem_of_getElem? (i := 321) (by decide +kernel))) (jm_in (List.mem_of_getElem? (i := 1) (by decide +kernel))) (by decide +kernel) rfl (Or.inl ⟨by decide, by decide⟩) (⟨trivial, ⟨trivial, trivial⟩⟩) rfl (Nat.le_of_ble_eq_true rfl) (Nat.le_of_ble_eq_true rfl) hl.1 c1 hH d_law_468 (fun H locs hH => ?_) hcs
  refine lv_aload_n hx hb d_law_471 rfl (lv_at hl 2 rfl) ?_
  refine lw_ld (lv := []) (k := 1) X hH (lv_at hl 0 rfl) (lv_at hl 3 rfl) (by decide) (by omega) hL d_law_472 d_law_473 d_law_474 d_law_475 d_law_476 ?_
  refine lw_ld (lv := []) (k := 2) X hH (lv_at hl 0 rfl) (lv_at hl 3 rfl) (by decide) (by omega) hL d_law_477 d_law_478 d_law_479 d_law_480 d_law_481 ?_
  refine lw_cv (na := 2) (as := [jm_I (xs (i + 1)), jm_I (xs (i + 2))]) (st := [jm_cv α (jm_I x)]) (k := 21) X jm_o129 (jm_in (List.mem_of_getElem? (i := 780) (by decide +kernel))) (jm_in (List.mem_of_getElem? (i := 781) (by decide +kernel))) (jm_in (List.mem_of_getElem? (i := 782) (by decide +kernel))) (jm_in (List.mem_of_getElem? (i := 6) (by decide +kernel))) (by decide +kernel) rfl (Or.inl ⟨by decide, by decide⟩) (⟨trivial, ⟨trivial, trivial⟩⟩) rfl (Nat.le_of_ble_eq_true rfl) (Nat.le_of_ble_eq_true rfl) hl.1 r1 hH d_law_482 (fun H locs hH => ?_) hcs
  refine lv_icmp_eq (tgt := 1181) hx hb d_law_485 (by decide) (fun _ => next A' σ2 _ _ hA' (c2.fr r3) r2 hH) (fun h9 => absurd rfl h9)
theorem lwc_10 (X : LX α cy D p s m meth c b L xs) (hL : L ≤ 3072) {i : Nat} (hi : i + 5 < L) {A : aS} (hA : okA A) (hc : cRel σ A) (hr : rRel σ A) (hH : jm_H α cy D (nA s) s σ H locs) (hl : lv_has ls 4 [(0, .ref b), (1, .ref (α 0 0)), (2, .ref (α 21 0)), (3, .int (nI i))]) (hcs : cells ≤ 600000 ∧ slots ≤ 7302250) (next : ∀ (A : aS) (σ : jm_S) (H : Heap) (locs : List Loc), okA A → cRel σ A → rRel σ A → jm_H α cy D (nA s) s σ H locs → W p l e room_1 s m #[Value.ref b] below meth c H locs cells slots Q (F0 m 1181 ls [])) : W p l e room_1 s m #[Value.ref b] below meth c H locs cells slots Q (F0 m 490 ls []) := by
  obtain ⟨hx, hb, -, -, -, -, -, -, -, -⟩ := X.1
  obtain ⟨v, A', hA', hcc, hrr⟩ := P_mark hA (xs (i + 1))
  obtain ⟨σ1, c1, c2, c3⟩ := hcc σ hc
  obtain ⟨σ2, r1, r2, r3⟩ := hrr σ1 (hr.fr c3)
  obtain ⟨x, rfl⟩ := jm_call_I (M := jD_mark) (by decide +kernel) c1
  refine lv_aload_n hx hb d_law_490 rfl (lv_at hl 1 rfl) ?_
  refine lw_ld (lv := []) (k := 1) X hH (lv_at hl 0 rfl) (lv_at hl 3 rfl) (by decide) (by omega) hL d_law_491 d_law_492 d_law_493 d_law_494 d_law_495 ?_
  refine lw_cv (na := 1) (as := [jm_I (xs (i + 1))]) (st := []) (k := 0) X jm_o48 (jm_in (List.mem_of_getElem? (i := 323) (by decide +kernel))) (jm_in (List.mem_of_getElem? (i := 324) (by decide +kernel))) (jm_in (List.mem_of_getElem? (i := 325) (by decide +kernel))) (jm_in (List.mem_of_getElem? (i := 1) (by decide +kernel))) (by decide +kernel) rfl (Or.inl ⟨by decide, by decide⟩) (⟨trivial, trivial⟩) rfl (Nat.le_of_ble_eq_true rfl) (Nat.le_of_ble_eq_true rfl) hl.1 c1 hH d_law_496 (fun H locs hH => ?_) hcs
  refine lv_aload_n hx hb d_law_499 rfl (lv_at hl 2 rfl) ?_
  refine lw_ld (lv := []) (k := 1) X hH (lv_at hl 0 rfl) (lv_at hl 3 rfl) (by decide) (by omega) hL d_law_500 d_law_501 d_law_502 d_law_503 d_law_504 ?_
  refine lw_cv (na := 1) (as := [jm_I (xs (i + 1))]) (st := [jm_cv α (jm_I x)]) (k := 21) X jm_o130 (jm_in (List.mem_of_getElem? (i := 785) (by decide +kernel))) (jm_in (List.mem_of_getElem? (i := 786) (by decide +kernel))) (jm_in (List.mem_of_getElem? (i := 787) (by decide +kernel))) (jm_in (List.mem_of_getElem? (i := 6) (by decide +kernel))) (by decide +kernel) rfl (Or.inl ⟨by decide, by decide⟩) (⟨trivial, trivial⟩) rfl (Nat.le_of_ble_eq_true rfl) (Nat.le_of_ble_eq_true rfl) hl.1 r1 hH d_law_505 (fun H locs hH => ?_) hcs
  refine lv_icmp_eq (tgt := 1181) hx hb d_law_508 (by decide) (fun _ => next A' σ2 _ _ hA' (c2.fr r3) r2 hH) (fun h9 => absurd rfl h9)
end LC
