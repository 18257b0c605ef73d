/-! THE LAW: case by case -/
section LC
variable {p : Program} {l : Launch} {e : Env} {s : State} {m : MethodId} {below : List Frame} {meth : Method} {c : Code} {cells slots : Nat} {Q : State → Prop} {D : va_G} {ad : je_C → Nat} {cA : Nat → ClassId} {b L i : Nat} {xs : Nat → Int32} {ls : Array Slot} {H : Heap} {locs : List Loc} {S : jS}
theorem la_setRoom (CC : la_C p s m meth c b L xs D ad cA cells slots) (hi : i + 4 ≤ L) (hl : lv_has ls 4 (la_L b ad i)) (hB : la_B s D ad cA S H locs)
    (kk : ∀ (S1 : jS) (H1 : Heap) (locs1 : List Loc), la_B s D ad cA S1 H1 locs1 → W p l e room_1 s m #[Value.ref b] below meth c H1 locs1 cells slots Q (F0 m 764 ls [])) : W p l e room_1 s m #[Value.ref b] below meth c H locs cells slots Q (F0 m 136 ls []) := by
  obtain ⟨⟨hx, hb, hown, hml, hts, hX, hbl⟩, hK, hJ, hN, hA, hcs, hL⟩ := CC
  obtain ⟨G, hC, hM, hI, hW, hS⟩ := hB
  refine lv_aload_n hx hb dL_law_136 rfl (lv_at hl 2 rfl) ?_
  refine la_arg (k := 1) hx hb hX hbl hS hl (by omega) hL dL_law_137 dL_law_138 dL_law_139 (by decide) dL_law_140 dL_law_141 ?_
  refine la_call (As := [jI (xs (i + 1))]) (rest := []) hx hb hown hml hts hK hJ hN hA hcs kL_142 (c_setRoom l G S hC (Inv_bits hI.1) (xs (i + 1))) ⟨by decide, rfl⟩ rfl (fun q hq => by simp only [List.mem_cons, List.not_mem_nil, or_false] at hq; cases hq) rfl (Nat.le_of_ble_eq_true rfl) hl hW hS (fun x1 G1 H locs hq hW hS => ?_)
  obtain ⟨e1, hC1, hf1⟩ := hq
  refine lv_aload_n hx hb dL_law_145 rfl (lv_at hl 1 rfl) ?_
  refine la_arg (k := 1) hx hb hX hbl hS hl (by omega) hL dL_law_146 dL_law_147 dL_law_148 (by decide) dL_law_149 dL_law_150 ?_
  refine la_call (As := [jI (xs (i + 1))]) (rest := [.int x1]) hx hb hown hml hts hK hJ hN hA hcs kL_151 (m_setRoom l G1 S (MR_frC hM hf1) (xs (i + 1))) ⟨by decide, rfl⟩ rfl (fun q hq => by simp only [List.mem_cons, List.not_mem_nil, or_false] at hq; cases hq) rfl (Nat.le_of_ble_eq_true rfl) hl hW hS (fun x2 G2 H locs hq hW hS => ?_)
  obtain ⟨e2, hM2, hf2⟩ := hq
  refine lv_icmp_eq hx hb dL_law_154 (tgt := 764) (by decide) (fun _ => ?_) (fun h => absurd (e1.trans e2.symm) h)
  exact kk _ H locs ⟨G2, CR_frM hC1 hf2, hM2, Inv_setRoom hI (xs (i + 1)), hW, hS⟩
theorem la_rope (CC : la_C p s m meth c b L xs D ad cA cells slots) (hi : i + 4 ≤ L) (hl : lv_has ls 4 (la_L b ad i)) (hB : la_B s D ad cA S H locs)
    (kk : ∀ (S1 : jS) (H1 : Heap) (locs1 : List Loc), la_B s D ad cA S1 H1 locs1 → W p l e room_1 s m #[Value.ref b] below meth c H1 locs1 cells slots Q (F0 m 764 ls [])) : W p l e room_1 s m #[Value.ref b] below meth c H locs cells slots Q (F0 m 159 ls []) := by
  obtain ⟨⟨hx, hb, hown, hml, hts, hX, hbl⟩, hK, hJ, hN, hA, hcs, hL⟩ := CC
  obtain ⟨G, hC, hM, hI, hW, hS⟩ := hB
  refine lv_aload_n hx hb dL_law_159 rfl (lv_at hl 2 rfl) ?_
  refine la_arg (k := 1) hx hb hX hbl hS hl (by omega) hL dL_law_160 dL_law_161 dL_law_162 (by decide) dL_law_163 dL_law_164 ?_
  refine la_arg (k := 2) hx hb hX hbl hS hl (by omega) hL dL_law_165 dL_law_166 dL_law_167 (by decide) dL_law_168 dL_law_169 ?_
  refine la_argb (k := 3) hx hb hX hbl hS hl (by omega) hL dL_law_170 dL_law_171 dL_law_172 (by decide) dL_law_173 dL_law_174 dL_law_175 dL_law_178 dL_law_179 dL_law_182 ?_
  refine la_call (As := [jI (xs (i + 1)), jI (xs (i + 2)), jI (bz (xs (i + 3)))]) (rest := []) hx hb hown hml hts hK hJ hN hA hcs kL_183 (c_rope l G S hC (Inv_bits hI.1) (xs (i + 1)) (xs (i + 2)) (bz (xs (i + 3))) (bz_01 _)) ⟨by decide, rfl⟩ rfl (fun q hq => by simp only [List.mem_cons, List.not_mem_nil, or_false] at hq; rcases hq with h | h | h <;> cases h) rfl (Nat.le_of_ble_eq_true rfl) hl hW hS (fun x1 G1 H locs hq hW hS => ?_)
  obtain ⟨e1, hC1, hf1⟩ := hq
  refine lv_aload_n hx hb dL_law_186 rfl (lv_at hl 1 rfl) ?_
  refine la_arg (k := 1) hx hb hX hbl hS hl (by omega) hL dL_law_187 dL_law_188 dL_law_189 (by decide) dL_law_190 dL_law_191 ?_
  refine la_arg (k := 2) hx hb hX hbl hS hl (by omega) hL dL_law_192 dL_law_193 dL_law_194 (by decide) dL_law_195 dL_law_196 ?_
  refine la_argb (k := 3) hx hb hX hbl hS hl (by omega) hL dL_law_197 dL_law_198 dL_law_199 (by decide) dL_law_200 dL_law_201 dL_law_202 dL_law_205 dL_law_206 dL_law_209 ?_
  refine la_call (As := [jI (xs (i + 1)), jI (xs (i + 2)), jI (bz (xs (i + 3)))]) (rest := [.int x1]) hx hb hown hml hts hK hJ hN hA hcs kL_210 (m_rope l G1 S (MR_frC hM hf1) (Inv_bits hI.1) hI.1.2 (xs (i + 1)) (xs (i + 2)) (bz (xs (i + 3))) (bz_01 _)) ⟨by decide, rfl⟩ rfl (fun q hq => by simp only [List.mem_cons, List.not_mem_nil, or_false] at hq; rcases hq with h | h | h <;> cases h) rfl (Nat.le_of_ble_eq_true rfl) hl hW hS (fun x2 G2 H locs hq hW hS => ?_)
  obtain ⟨e2, hM2, hf2⟩ := hq
  refine lv_icmp_eq hx hb dL_law_213 (tgt := 764) (by decide) (fun _ => ?_) (fun h => absurd (e1.trans e2.symm) h)
  exact kk _ H locs ⟨G2, CR_frM hC1 hf2, hM2, Inv_rope hI (xs (i + 1)) (xs (i + 2)) (bz (xs (i + 3))) (bz_01 _), hW, hS⟩
theorem la_door (CC : la_C p s m meth c b L xs D ad cA cells slots) (hi : i + 4 ≤ L) (hl : lv_has ls 4 (la_L b ad i)) (hB : la_B s D ad cA S H locs)
    (kk : ∀ (S1 : jS) (H1 : Heap) (locs1 : List Loc), la_B s D ad cA S1 H1 locs1 → W p l e room_1 s m #[Value.ref b] below meth c H1 locs1 cells slots Q (F0 m 764 ls [])) : W p l e room_1 s m #[Value.ref b] below meth c H locs cells slots Q (F0 m 218 ls []) := by
  obtain ⟨⟨hx, hb, hown, hml, hts, hX, hbl⟩, hK, hJ, hN, hA, hcs, hL⟩ := CC
  obtain ⟨G, hC, hM, hI, hW, hS⟩ := hB
  refine lv_aload_n hx hb dL_law_218 rfl (lv_at hl 2 rfl) ?_
  refine la_arg (k := 1) hx hb hX hbl hS hl (by omega) hL dL_law_219 dL_law_220 dL_law_221 (by decide) dL_law_222 dL_law_223 ?_
  refine la_arg (k := 2) hx hb hX hbl hS hl (by omega) hL dL_law_224 dL_law_225 dL_law_226 (by decide) dL_law_227 dL_law_228 ?_
  refine la_arg (k := 3) hx hb hX hbl hS hl (by omega) hL dL_law_229 dL_law_230 dL_law_231 (by decide) dL_law_232 dL_law_233 ?_
  refine la_call (As := [jI (xs (i + 1)), jI (xs (i + 2)), jI (xs (i + 3))]) (rest := []) hx hb hown hml hts hK hJ hN hA hcs kL_234 (c_door l G S hC (Inv_bits hI.1) (xs (i + 1)) (xs (i + 2)) (xs (i + 3))) ⟨by decide, rfl⟩ rfl (fun q hq => by simp only [List.mem_cons, List.not_mem_nil, or_false] at hq; rcases hq with h | h | h <;> cases h) rfl (Nat.le_of_ble_eq_true rfl) hl hW hS (fun x1 G1 H locs hq hW hS => ?_)
  obtain ⟨e1, hC1, hf1⟩ := hq
  refine lv_aload_n hx hb dL_law_237 rfl (lv_at hl 1 rfl) ?_
  refine la_arg (k := 1) hx hb hX hbl hS hl (by omega) hL dL_law_238 dL_law_239 dL_law_240 (by decide) dL_law_241 dL_law_242 ?_
  refine la_arg (k := 2) hx hb hX hbl hS hl (by omega) hL dL_law_243 dL_law_244 dL_law_245 (by decide) dL_law_246 dL_law_247 ?_
  refine la_arg (k := 3) hx hb hX hbl hS hl (by omega) hL dL_law_248 dL_law_249 dL_law_250 (by decide) dL_law_251 dL_law_252 ?_
  refine la_call (As := [jI (xs (i + 1)), jI (xs (i + 2)), jI (xs (i + 3))]) (rest := [.int x1]) hx hb hown hml hts hK hJ hN hA hcs kL_253 (m_door l G1 S (MR_frC hM hf1) (xs (i + 1)) (xs (i + 2)) (xs (i + 3))) ⟨by decide, rfl⟩ rfl (fun q hq => by simp only [List.mem_cons, List.not_mem_nil, or_false] at hq; rcases hq with h | h | h <;> cases h) rfl (Nat.le_of_ble_eq_true rfl) hl hW hS (fun x2 G2 H locs hq hW hS => ?_)
  obtain ⟨e2, hM2, hf2⟩ := hq
  refine lv_icmp_eq hx hb dL_law_256 (tgt := 764) (by decide) (fun _ => ?_) (fun h => absurd (e1.trans e2.symm) h)
  exact kk _ H locs ⟨G2, CR_frM hC1 hf2, hM2, Inv_door hI (xs (i + 1)) (xs (i + 2)) (xs (i + 3)), hW, hS⟩
theorem la_open (CC : la_C p s m meth c b L xs D ad cA cells slots) (hi : i + 4 ≤ L) (hl : lv_has ls 4 (la_L b ad i)) (hB : la_B s D ad cA S H locs)
    (kk : ∀ (S1 : jS) (H1 : Heap) (locs1 : List Loc), la_B s D ad cA S1 H1 locs1 → W p l e room_1 s m #[Value.ref b] below meth c H1 locs1 cells slots Q (F0 m 764 ls [])) : W p l e room_1 s m #[Value.ref b] below meth c H locs cells slots Q (F0 m 261 ls []) := by
  obtain ⟨⟨hx, hb, hown, hml, hts, hX, hbl⟩, hK, hJ, hN, hA, hcs, hL⟩ := CC
  obtain ⟨G, hC, hM, hI, hW, hS⟩ := hB
  refine lv_aload_n hx hb dL_law_261 rfl (lv_at hl 2 rfl) ?_
  refine la_arg (k := 1) hx hb hX hbl hS hl (by omega) hL dL_law_262 dL_law_263 dL_law_264 (by decide) dL_law_265 dL_law_266 ?_
  refine la_argb (k := 2) hx hb hX hbl hS hl (by omega) hL dL_law_267 dL_law_268 dL_law_269 (by decide) dL_law_270 dL_law_271 dL_law_272 dL_law_275 dL_law_276 dL_law_279 ?_
  refine la_call (As := [jI (xs (i + 1)), jI (bz (xs (i + 2)))]) (rest := []) hx hb hown hml hts hK hJ hN hA hcs kL_280 (c_open l G S hC (Inv_bits hI.1) (xs (i + 1)) (bz (xs (i + 2))) (bz_01 _)) ⟨by decide, rfl⟩ rfl (fun q hq => by simp only [List.mem_cons, List.not_mem_nil, or_false] at hq; rcases hq with h | h <;> cases h) rfl (Nat.le_of_ble_eq_true rfl) hl hW hS (fun x1 G1 H locs hq hW hS => ?_)
  obtain ⟨e1, hC1, hf1⟩ := hq
  refine lv_aload_n hx hb dL_law_283 rfl (lv_at hl 1 rfl) ?_
  refine la_arg (k := 1) hx hb hX hbl hS hl (by omega) hL dL_law_284 dL_law_285 dL_law_286 (by decide) dL_law_287 dL_law_288 ?_
  refine la_argb (k := 2) hx hb hX hbl hS hl (by omega) hL dL_law_289 dL_law_290 dL_law_291 (by decide) dL_law_292 dL_law_293 dL_law_294 dL_law_297 dL_law_298 dL_law_301 ?_
  refine la_call (As := [jI (xs (i + 1)), jI (bz (xs (i + 2)))]) (rest := [.int x1]) hx hb hown hml hts hK hJ hN hA hcs kL_302 (m_open l G1 S (MR_frC hM hf1) (xs (i + 1)) (bz (xs (i + 2))) (bz_01 _)) ⟨by decide, rfl⟩ rfl (fun q hq => by simp only [List.mem_cons, List.not_mem_nil, or_false] at hq; rcases hq with h | h <;> cases h) rfl (Nat.le_of_ble_eq_true rfl) hl hW hS (fun x2 G2 H locs hq hW hS => ?_)
  obtain ⟨e2, hM2, hf2⟩ := hq
  refine lv_icmp_eq hx hb dL_law_305 (tgt := 764) (by decide) (fun _ => ?_) (fun h => absurd (e1.trans e2.symm) h)
  exact kk _ H locs ⟨G2, CR_frM hC1 hf2, hM2, Inv_open hI (xs (i + 1)) (bz (xs (i + 2))) (bz_01 _), hW, hS⟩
theorem la_guard (CC : la_C p s m meth c b L xs D ad cA cells slots) (hi : i + 4 ≤ L) (hl : lv_has ls 4 (la_L b ad i)) (hB : la_B s D ad cA S H locs)
    (kk : ∀ (S1 : jS) (H1 : Heap) (locs1 : List Loc), la_B s D ad cA S1 H1 locs1 → W p l e room_1 s m #[Value.ref b] below meth c H1 locs1 cells slots Q (F0 m 764 ls [])) : W p l e room_1 s m #[Value.ref b] below meth c H locs cells slots Q (F0 m 310 ls []) := by
  obtain ⟨⟨hx, hb, hown, hml, hts, hX, hbl⟩, hK, hJ, hN, hA, hcs, hL⟩ := CC
  obtain ⟨G, hC, hM, hI, hW, hS⟩ := hB
  refine lv_aload_n hx hb dL_law_310 rfl (lv_at hl 2 rfl) ?_
  refine la_arg (k := 1) hx hb hX hbl hS hl (by omega) hL dL_law_311 dL_law_312 dL_law_313 (by decide) dL_law_314 dL_law_315 ?_
  refine la_arg (k := 2) hx hb hX hbl hS hl (by omega) hL dL_law_316 dL_law_317 dL_law_318 (by decide) dL_law_319 dL_law_320 ?_
  refine la_call (As := [jI (xs (i + 1)), jI (xs (i + 2))]) (rest := []) hx hb hown hml hts hK hJ hN hA hcs kL_321 (c_guard l G S hC (Inv_bits hI.1) (Inv_dc hI.1) (xs (i + 1)) (xs (i + 2))) ⟨by decide, rfl⟩ rfl (fun q hq => by simp only [List.mem_cons, List.not_mem_nil, or_false] at hq; rcases hq with h | h <;> cases h) rfl (Nat.le_of_ble_eq_true rfl) hl hW hS (fun x1 G1 H locs hq hW hS => ?_)
  obtain ⟨e1, hC1, hf1⟩ := hq
  refine lv_aload_n hx hb dL_law_324 rfl (lv_at hl 1 rfl) ?_
  refine la_arg (k := 1) hx hb hX hbl hS hl (by omega) hL dL_law_325 dL_law_326 dL_law_327 (by decide) dL_law_328 dL_law_329 ?_
  refine la_arg (k := 2) hx hb hX hbl hS hl (by omega) hL dL_law_330 dL_law_331 dL_law_332 (by decide) dL_law_333 dL_law_334 ?_
  refine la_call (As := [jI (xs (i + 1)), jI (xs (i + 2))]) (rest := [.int x1]) hx hb hown hml hts hK hJ hN hA hcs kL_335 (m_guard l G1 S (MR_frC hM hf1) hI.1.1 (xs (i + 1)) (xs (i + 2))) ⟨by decide, rfl⟩ rfl (fun q hq => by simp only [List.mem_cons, List.not_mem_nil, or_false] at hq; rcases hq with h | h <;> cases h) rfl (Nat.le_of_ble_eq_true rfl) hl hW hS (fun x2 G2 H locs hq hW hS => ?_)
  obtain ⟨e2, hM2, hf2⟩ := hq
  refine lv_icmp_eq hx hb dL_law_338 (tgt := 764) (by decide) (fun _ => ?_) (fun h => absurd (e1.trans e2.symm) h)
  exact kk _ H locs ⟨G2, CR_frM hC1 hf2, hM2, Inv_guard hI (xs (i + 1)) (xs (i + 2)), hW, hS⟩
theorem la_enter (CC : la_C p s m meth c b L xs D ad cA cells slots) (hi : i + 4 ≤ L) (hl : lv_has ls 4 (la_L b ad i)) (hB : la_B s D ad cA S H locs)
    (kk : ∀ (S1 : jS) (H1 : Heap) (locs1 : List Loc), la_B s D ad cA S1 H1 locs1 → W p l e room_1 s m #[Value.ref b] below meth c H1 locs1 cells slots Q (F0 m 764 ls [])) : W p l e room_1 s m #[Value.ref b] below meth c H locs cells slots Q (F0 m 343 ls []) := by
  obtain ⟨⟨hx, hb, hown, hml, hts, hX, hbl⟩, hK, hJ, hN, hA, hcs, hL⟩ := CC
  obtain ⟨G, hC, hM, hI, hW, hS⟩ := hB
  refine lv_aload_n hx hb dL_law_343 rfl (lv_at hl 2 rfl) ?_
  refine la_arg (k := 1) hx hb hX hbl hS hl (by omega) hL dL_law_344 dL_law_345 dL_law_346 (by decide) dL_law_347 dL_law_348 ?_
  refine la_arg (k := 2) hx hb hX hbl hS hl (by omega) hL dL_law_349 dL_law_350 dL_law_351 (by decide) dL_law_352 dL_law_353 ?_
  refine la_call (As := [jI (xs (i + 1)), jI (xs (i + 2))]) (rest := []) hx hb hown hml hts hK hJ hN hA hcs kL_354 (c_enter l G S hC (Inv_bits hI.1) (xs (i + 1)) (xs (i + 2))) ⟨by decide, rfl⟩ rfl (fun q hq => by simp only [List.mem_cons, List.not_mem_nil, or_false] at hq; rcases hq with h | h <;> cases h) rfl (Nat.le_of_ble_eq_true rfl) hl hW hS (fun x1 G1 H locs hq hW hS => ?_)
  obtain ⟨e1, hC1, hf1⟩ := hq
  refine lv_aload_n hx hb dL_law_357 rfl (lv_at hl 1 rfl) ?_
  refine la_arg (k := 1) hx hb hX hbl hS hl (by omega) hL dL_law_358 dL_law_359 dL_law_360 (by decide) dL_law_361 dL_law_362 ?_
  refine la_arg (k := 2) hx hb hX hbl hS hl (by omega) hL dL_law_363 dL_law_364 dL_law_365 (by decide) dL_law_366 dL_law_367 ?_
  refine la_call (As := [jI (xs (i + 1)), jI (xs (i + 2))]) (rest := [.int x1]) hx hb hown hml hts hK hJ hN hA hcs kL_368 (m_enter l G1 S (MR_frC hM hf1) (xs (i + 1)) (xs (i + 2))) ⟨by decide, rfl⟩ rfl (fun q hq => by simp only [List.mem_cons, List.not_mem_nil, or_false] at hq; rcases hq with h | h <;> cases h) rfl (Nat.le_of_ble_eq_true rfl) hl hW hS (fun x2 G2 H locs hq hW hS => ?_)
  obtain ⟨e2, hM2, hf2⟩ := hq
  refine lv_icmp_eq hx hb dL_law_371 (tgt := 764) (by decide) (fun _ => ?_) (fun h => absurd (e1.trans e2.symm) h)
  exact kk _ H locs ⟨G2, CR_frM hC1 hf2, hM2, Inv_enter hI (xs (i + 1)) (xs (i + 2)), hW, hS⟩
theorem la_read (CC : la_C p s m meth c b L xs D ad cA cells slots) (hi : i + 4 ≤ L) (hl : lv_has ls 4 (la_L b ad i)) (hB : la_B s D ad cA S H locs)
    (kk : ∀ (S1 : jS) (H1 : Heap) (locs1 : List Loc), la_B s D ad cA S1 H1 locs1 → W p l e room_1 s m #[Value.ref b] below meth c H1 locs1 cells slots Q (F0 m 764 ls [])) : W p l e room_1 s m #[Value.ref b] below meth c H locs cells slots Q (F0 m 376 ls []) := by
  obtain ⟨⟨hx, hb, hown, hml, hts, hX, hbl⟩, hK, hJ, hN, hA, hcs, hL⟩ := CC
  obtain ⟨G, hC, hM, hI, hW, hS⟩ := hB
  refine lv_aload_n hx hb dL_law_376 rfl (lv_at hl 2 rfl) ?_
  refine la_call (As := []) (rest := []) hx hb hown hml hts hK hJ hN hA hcs kL_377 (c_read l G S hC (Inv_bits hI.1) (CR_txt hC)) ⟨by decide, rfl⟩ rfl (fun q hq => by cases hq) rfl (Nat.le_of_ble_eq_true rfl) hl hW hS (fun x1 G1 H locs hq hW hS => ?_)
  obtain ⟨e1, hC1, hf1⟩ := hq
  refine lv_aload_n hx hb dL_law_380 rfl (lv_at hl 1 rfl) ?_
  refine la_call (As := []) (rest := [.int x1]) hx hb hown hml hts hK hJ hN hA hcs kL_381 (m_read l G1 S (MR_frC hM hf1) (CR_txt hC)) ⟨by decide, rfl⟩ rfl (fun q hq => by cases hq) rfl (Nat.le_of_ble_eq_true rfl) hl hW hS (fun x2 G2 H locs hq hW hS => ?_)
  obtain ⟨e2, hM2, hf2⟩ := hq
  refine lv_icmp_eq hx hb dL_law_384 (tgt := 764) (by decide) (fun _ => ?_) (fun h => absurd (e1.trans e2.symm) h)
  exact kk _ H locs ⟨G2, CR_frM hC1 hf2, hM2, Inv_read hI (CR_txt hC), hW, hS⟩
theorem la_pass (CC : la_C p s m meth c b L xs D ad cA cells slots) (hi : i + 4 ≤ L) (hl : lv_has ls 4 (la_L b ad i)) (hB : la_B s D ad cA S H locs)
    (kk : ∀ (S1 : jS) (H1 : Heap) (locs1 : List Loc), la_B s D ad cA S1 H1 locs1 → W p l e room_1 s m #[Value.ref b] below meth c H1 locs1 cells slots Q (F0 m 764 ls [])) : W p l e room_1 s m #[Value.ref b] below meth c H locs cells slots Q (F0 m 389 ls []) := by
  obtain ⟨⟨hx, hb, hown, hml, hts, hX, hbl⟩, hK, hJ, hN, hA, hcs, hL⟩ := CC
  obtain ⟨G, hC, hM, hI, hW, hS⟩ := hB
  refine lv_aload_n hx hb dL_law_389 rfl (lv_at hl 2 rfl) ?_
  refine la_arg (k := 1) hx hb hX hbl hS hl (by omega) hL dL_law_390 dL_law_391 dL_law_392 (by decide) dL_law_393 dL_law_394 ?_
  refine la_call (As := [jI (xs (i + 1))]) (rest := []) hx hb hown hml hts hK hJ hN hA hcs kL_395 (c_pass l G S hC (Inv_bits hI.1) (Inv_dc hI.1) (xs (i + 1))) ⟨by decide, rfl⟩ rfl (fun q hq => by simp only [List.mem_cons, List.not_mem_nil, or_false] at hq; cases hq) rfl (Nat.le_of_ble_eq_true rfl) hl hW hS (fun x1 G1 H locs hq hW hS => ?_)
  obtain ⟨e1, hC1, hf1⟩ := hq
  refine lv_aload_n hx hb dL_law_398 rfl (lv_at hl 1 rfl) ?_
  refine la_arg (k := 1) hx hb hX hbl hS hl (by omega) hL dL_law_399 dL_law_400 dL_law_401 (by decide) dL_law_402 dL_law_403 ?_
  refine la_call (As := [jI (xs (i + 1))]) (rest := [.int x1]) hx hb hown hml hts hK hJ hN hA hcs kL_404 (m_pass l G1 S (MR_frC hM hf1) hI.1.1 (xs (i + 1))) ⟨by decide, rfl⟩ rfl (fun q hq => by simp only [List.mem_cons, List.not_mem_nil, or_false] at hq; cases hq) rfl (Nat.le_of_ble_eq_true rfl) hl hW hS (fun x2 G2 H locs hq hW hS => ?_)
  obtain ⟨e2, hM2, hf2, ha9⟩ := hq
  refine lv_icmp_eq hx hb dL_law_407 (tgt := 764) (by decide) (fun _ => ?_) (fun h => absurd (e1.trans e2.symm) h)
  exact kk _ H locs ⟨G2, CR_frM hC1 hf2, hM2, Inv_pass hI (xs (i + 1)) ha9, hW, hS⟩
theorem la_cell (CC : la_C p s m meth c b L xs D ad cA cells slots) (hi : i + 4 ≤ L) (hl : lv_has ls 4 (la_L b ad i)) (hB : la_B s D ad cA S H locs)
    (kk : ∀ (S1 : jS) (H1 : Heap) (locs1 : List Loc), la_B s D ad cA S1 H1 locs1 → W p l e room_1 s m #[Value.ref b] below meth c H1 locs1 cells slots Q (F0 m 764 ls [])) : W p l e room_1 s m #[Value.ref b] below meth c H locs cells slots Q (F0 m 412 ls []) := by
  obtain ⟨⟨hx, hb, hown, hml, hts, hX, hbl⟩, hK, hJ, hN, hA, hcs, hL⟩ := CC
  obtain ⟨G, hC, hM, hI, hW, hS⟩ := hB
  refine lv_aload_n hx hb dL_law_412 rfl (lv_at hl 2 rfl) ?_
  refine la_arg (k := 1) hx hb hX hbl hS hl (by omega) hL dL_law_413 dL_law_414 dL_law_415 (by decide) dL_law_416 dL_law_417 ?_
  refine la_arg (k := 2) hx hb hX hbl hS hl (by omega) hL dL_law_418 dL_law_419 dL_law_420 (by decide) dL_law_421 dL_law_422 ?_
  refine la_call (As := [jI (xs (i + 1)), jI (xs (i + 2))]) (rest := []) hx hb hown hml hts hK hJ hN hA hcs kL_423 (c_cell l G S hC (Inv_dc hI.1) (xs (i + 1)) (xs (i + 2))) ⟨by decide, rfl⟩ rfl (fun q hq => by simp only [List.mem_cons, List.not_mem_nil, or_false] at hq; rcases hq with h | h <;> cases h) rfl (Nat.le_of_ble_eq_true rfl) hl hW hS (fun x1 G1 H locs hq hW hS => ?_)
  obtain ⟨e1, hC1, hf1⟩ := hq
  refine lv_aload_n hx hb dL_law_426 rfl (lv_at hl 1 rfl) ?_
  refine la_arg (k := 1) hx hb hX hbl hS hl (by omega) hL dL_law_427 dL_law_428 dL_law_429 (by decide) dL_law_430 dL_law_431 ?_
  refine la_arg (k := 2) hx hb hX hbl hS hl (by omega) hL dL_law_432 dL_law_433 dL_law_434 (by decide) dL_law_435 dL_law_436 ?_
  refine la_call (As := [jI (xs (i + 1)), jI (xs (i + 2))]) (rest := [.int x1]) hx hb hown hml hts hK hJ hN hA hcs kL_437 (m_cell l G1 S (MR_frC hM hf1) hI.1.1 (xs (i + 1)) (xs (i + 2))) ⟨by decide, rfl⟩ rfl (fun q hq => by simp only [List.mem_cons, List.not_mem_nil, or_false] at hq; rcases hq with h | h <;> cases h) rfl (Nat.le_of_ble_eq_true rfl) hl hW hS (fun x2 G2 H locs hq hW hS => ?_)
  obtain ⟨e2, hM2, hf2⟩ := hq
  refine lv_icmp_eq hx hb dL_law_440 (tgt := 764) (by decide) (fun _ => ?_) (fun h => absurd (e1.trans e2.symm) h)
  exact kk _ H locs ⟨G2, CR_frM hC1 hf2, hM2, hI, hW, hS⟩
theorem la_doorOf (CC : la_C p s m meth c b L xs D ad cA cells slots) (hi : i + 4 ≤ L) (hl : lv_has ls 4 (la_L b ad i)) (hB : la_B s D ad cA S H locs)
    (kk : ∀ (S1 : jS) (H1 : Heap) (locs1 : List Loc), la_B s D ad cA S1 H1 locs1 → W p l e room_1 s m #[Value.ref b] below meth c H1 locs1 cells slots Q (F0 m 764 ls [])) : W p l e room_1 s m #[Value.ref b] below meth c H locs cells slots Q (F0 m 445 ls []) := by
  obtain ⟨⟨hx, hb, hown, hml, hts, hX, hbl⟩, hK, hJ, hN, hA, hcs, hL⟩ := CC
  obtain ⟨G, hC, hM, hI, hW, hS⟩ := hB
  refine lv_aload_n hx hb dL_law_445 rfl (lv_at hl 2 rfl) ?_
  refine la_arg (k := 1) hx hb hX hbl hS hl (by omega) hL dL_law_446 dL_law_447 dL_law_448 (by decide) dL_law_449 dL_law_450 ?_
  refine la_arg (k := 2) hx hb hX hbl hS hl (by omega) hL dL_law_451 dL_law_452 dL_law_453 (by decide) dL_law_454 dL_law_455 ?_
  refine la_call (As := [jI (xs (i + 1)), jI (xs (i + 2))]) (rest := []) hx hb hown hml hts hK hJ hN hA hcs kL_456 (c_doorOf l G S hC (Inv_dc hI.1) (xs (i + 1)) (xs (i + 2))) ⟨by decide, rfl⟩ rfl (fun q hq => by simp only [List.mem_cons, List.not_mem_nil, or_false] at hq; rcases hq with h | h <;> cases h) rfl (Nat.le_of_ble_eq_true rfl) hl hW hS (fun x1 G1 H locs hq hW hS => ?_)
  obtain ⟨e1, hC1, hf1⟩ := hq
  refine lv_aload_n hx hb dL_law_459 rfl (lv_at hl 1 rfl) ?_
  refine la_arg (k := 1) hx hb hX hbl hS hl (by omega) hL dL_law_460 dL_law_461 dL_law_462 (by decide) dL_law_463 dL_law_464 ?_
  refine la_arg (k := 2) hx hb hX hbl hS hl (by omega) hL dL_law_465 dL_law_466 dL_law_467 (by decide) dL_law_468 dL_law_469 ?_
  refine la_call (As := [jI (xs (i + 1)), jI (xs (i + 2))]) (rest := [.int x1]) hx hb hown hml hts hK hJ hN hA hcs kL_470 (m_doorOf l G1 S (MR_frC hM hf1) hI.1.1 (xs (i + 1)) (xs (i + 2))) ⟨by decide, rfl⟩ rfl (fun q hq => by simp only [List.mem_cons, List.not_mem_nil, or_false] at hq; rcases hq with h | h <;> cases h) rfl (Nat.le_of_ble_eq_true rfl) hl hW hS (fun x2 G2 H locs hq hW hS => ?_)
  obtain ⟨e2, hM2, hf2⟩ := hq
  refine lv_icmp_eq hx hb dL_law_473 (tgt := 764) (by decide) (fun _ => ?_) (fun h => absurd (e1.trans e2.symm) h)
  exact kk _ H locs ⟨G2, CR_frM hC1 hf2, hM2, hI, hW, hS⟩
theorem la_count (CC : la_C p s m meth c b L xs D ad cA cells slots) (hi : i + 4 ≤ L) (hl : lv_has ls 4 (la_L b ad i)) (hB : la_B s D ad cA S H locs)
    (kk : ∀ (S1 : jS) (H1 : Heap) (locs1 : List Loc), la_B s D ad cA S1 H1 locs1 → W p l e room_1 s m #[Value.ref b] below meth c H1 locs1 cells slots Q (F0 m 764 ls [])) : W p l e room_1 s m #[Value.ref b] below meth c H locs cells slots Q (F0 m 478 ls []) := by
  obtain ⟨⟨hx, hb, hown, hml, hts, hX, hbl⟩, hK, hJ, hN, hA, hcs, hL⟩ := CC
  obtain ⟨G, hC, hM, hI, hW, hS⟩ := hB
  refine lv_aload_n hx hb dL_law_478 rfl (lv_at hl 2 rfl) ?_
  refine la_arg (k := 1) hx hb hX hbl hS hl (by omega) hL dL_law_479 dL_law_480 dL_law_481 (by decide) dL_law_482 dL_law_483 ?_
  refine la_call (As := [jI (xs (i + 1))]) (rest := []) hx hb hown hml hts hK hJ hN hA hcs kL_484 (c_count l G S hC (Inv_dc hI.1) (xs (i + 1))) ⟨by decide, rfl⟩ rfl (fun q hq => by simp only [List.mem_cons, List.not_mem_nil, or_false] at hq; cases hq) rfl (Nat.le_of_ble_eq_true rfl) hl hW hS (fun x1 G1 H locs hq hW hS => ?_)
  obtain ⟨e1, hC1, hf1⟩ := hq
  refine lv_aload_n hx hb dL_law_487 rfl (lv_at hl 1 rfl) ?_
  refine la_arg (k := 1) hx hb hX hbl hS hl (by omega) hL dL_law_488 dL_law_489 dL_law_490 (by decide) dL_law_491 dL_law_492 ?_
  refine la_call (As := [jI (xs (i + 1))]) (rest := [.int x1]) hx hb hown hml hts hK hJ hN hA hcs kL_493 (m_count l G1 S (MR_frC hM hf1) hI.1.1 (xs (i + 1))) ⟨by decide, rfl⟩ rfl (fun q hq => by simp only [List.mem_cons, List.not_mem_nil, or_false] at hq; cases hq) rfl (Nat.le_of_ble_eq_true rfl) hl hW hS (fun x2 G2 H locs hq hW hS => ?_)
  obtain ⟨e2, hM2, hf2⟩ := hq
  refine lv_icmp_eq hx hb dL_law_496 (tgt := 764) (by decide) (fun _ => ?_) (fun h => absurd (e1.trans e2.symm) h)
  exact kk _ H locs ⟨G2, CR_frM hC1 hf2, hM2, hI, hW, hS⟩
theorem la_distance (CC : la_C p s m meth c b L xs D ad cA cells slots) (hi : i + 4 ≤ L) (hl : lv_has ls 4 (la_L b ad i)) (hB : la_B s D ad cA S H locs)
    (kk : ∀ (S1 : jS) (H1 : Heap) (locs1 : List Loc), la_B s D ad cA S1 H1 locs1 → W p l e room_1 s m #[Value.ref b] below meth c H1 locs1 cells slots Q (F0 m 764 ls [])) : W p l e room_1 s m #[Value.ref b] below meth c H locs cells slots Q (F0 m 501 ls []) := by
  obtain ⟨⟨hx, hb, hown, hml, hts, hX, hbl⟩, hK, hJ, hN, hA, hcs, hL⟩ := CC
  obtain ⟨G, hC, hM, hI, hW, hS⟩ := hB
  refine lv_aload_n hx hb dL_law_501 rfl (lv_at hl 2 rfl) ?_
  refine la_arg (k := 1) hx hb hX hbl hS hl (by omega) hL dL_law_502 dL_law_503 dL_law_504 (by decide) dL_law_505 dL_law_506 ?_
  refine la_arg (k := 2) hx hb hX hbl hS hl (by omega) hL dL_law_507 dL_law_508 dL_law_509 (by decide) dL_law_510 dL_law_511 ?_
  refine la_call (As := [jI (xs (i + 1)), jI (xs (i + 2))]) (rest := []) hx hb hown hml hts hK hJ hN hA hcs kL_512 (c_distance l G S hC (Inv_dc hI.1) (xs (i + 1)) (xs (i + 2))) ⟨by decide, rfl⟩ rfl (fun q hq => by simp only [List.mem_cons, List.not_mem_nil, or_false] at hq; rcases hq with h | h <;> cases h) rfl (Nat.le_of_ble_eq_true rfl) hl hW hS (fun x1 G1 H locs hq hW hS => ?_)
  obtain ⟨e1, hC1, hf1⟩ := hq
  refine lv_aload_n hx hb dL_law_515 rfl (lv_at hl 1 rfl) ?_
  refine la_arg (k := 1) hx hb hX hbl hS hl (by omega) hL dL_law_516 dL_law_517 dL_law_518 (by decide) dL_law_519 dL_law_520 ?_
  refine la_arg (k := 2) hx hb hX hbl hS hl (by omega) hL dL_law_521 dL_law_522 dL_law_523 (by decide) dL_law_524 dL_law_525 ?_
  refine la_call (As := [jI (xs (i + 1)), jI (xs (i + 2))]) (rest := [.int x1]) hx hb hown hml hts hK hJ hN hA hcs kL_526 (m_distance l G1 S (MR_frC hM hf1) hI.1.1 (xs (i + 1)) (xs (i + 2))) ⟨by decide, rfl⟩ rfl (fun q hq => by simp only [List.mem_cons, List.not_mem_nil, or_false] at hq; rcases hq with h | h <;> cases h) rfl (Nat.le_of_ble_eq_true rfl) hl hW hS (fun x2 G2 H locs hq hW hS => ?_)
  obtain ⟨e2, hM2, hf2⟩ := hq
  refine lv_icmp_eq hx hb dL_law_529 (tgt := 764) (by decide) (fun _ => ?_) (fun h => absurd (e1.trans e2.symm) h)
  exact kk _ H locs ⟨G2, CR_frM hC1 hf2, hM2, hI, hW, hS⟩
theorem la_untilOut (CC : la_C p s m meth c b L xs D ad cA cells slots) (hi : i + 4 ≤ L) (hl : lv_has ls 4 (la_L b ad i)) (hB : la_B s D ad cA S H locs)
    (kk : ∀ (S1 : jS) (H1 : Heap) (locs1 : List Loc), la_B s D ad cA S1 H1 locs1 → W p l e room_1 s m #[Value.ref b] below meth c H1 locs1 cells slots Q (F0 m 764 ls [])) : W p l e room_1 s m #[Value.ref b] below meth c H locs cells slots Q (F0 m 534 ls []) := by
  obtain ⟨⟨hx, hb, hown, hml, hts, hX, hbl⟩, hK, hJ, hN, hA, hcs, hL⟩ := CC
  obtain ⟨G, hC, hM, hI, hW, hS⟩ := hB
  refine lv_aload_n hx hb dL_law_534 rfl (lv_at hl 2 rfl) ?_
  refine la_call (As := []) (rest := []) hx hb hown hml hts hK hJ hN hA hcs kL_535 (c_untilOut l G S hC (Inv_bits hI.1) (Inv_dc hI.1)) ⟨by decide, rfl⟩ rfl (fun q hq => by cases hq) rfl (Nat.le_of_ble_eq_true rfl) hl hW hS (fun x1 G1 H locs hq hW hS => ?_)
  obtain ⟨e1, hC1, hf1⟩ := hq
  refine lv_aload_n hx hb dL_law_538 rfl (lv_at hl 1 rfl) ?_
  refine la_call (As := []) (rest := [.int x1]) hx hb hown hml hts hK hJ hN hA hcs kL_539 (m_untilOut l G1 S (MR_frC hM hf1) hI.1.1) ⟨by decide, rfl⟩ rfl (fun q hq => by cases hq) rfl (Nat.le_of_ble_eq_true rfl) hl hW hS (fun x2 G2 H locs hq hW hS => ?_)
  obtain ⟨e2, hM2, hf2⟩ := hq
  refine lv_icmp_eq hx hb dL_law_542 (tgt := 764) (by decide) (fun _ => ?_) (fun h => absurd (e1.trans e2.symm) h)
  exact kk _ H locs ⟨G2, CR_frM hC1 hf2, hM2, hI, hW, hS⟩
theorem la_ifRope (CC : la_C p s m meth c b L xs D ad cA cells slots) (hi : i + 4 ≤ L) (hl : lv_has ls 4 (la_L b ad i)) (hB : la_B s D ad cA S H locs)
    (kk : ∀ (S1 : jS) (H1 : Heap) (locs1 : List Loc), la_B s D ad cA S1 H1 locs1 → W p l e room_1 s m #[Value.ref b] below meth c H1 locs1 cells slots Q (F0 m 764 ls [])) : W p l e room_1 s m #[Value.ref b] below meth c H locs cells slots Q (F0 m 547 ls []) := by
  obtain ⟨⟨hx, hb, hown, hml, hts, hX, hbl⟩, hK, hJ, hN, hA, hcs, hL⟩ := CC
  obtain ⟨G, hC, hM, hI, hW, hS⟩ := hB
  refine lv_aload_n hx hb dL_law_547 rfl (lv_at hl 2 rfl) ?_
  refine la_arg (k := 1) hx hb hX hbl hS hl (by omega) hL dL_law_548 dL_law_549 dL_law_550 (by decide) dL_law_551 dL_law_552 ?_
  refine la_arg (k := 2) hx hb hX hbl hS hl (by omega) hL dL_law_553 dL_law_554 dL_law_555 (by decide) dL_law_556 dL_law_557 ?_
  refine la_arg (k := 3) hx hb hX hbl hS hl (by omega) hL dL_law_558 dL_law_559 dL_law_560 (by decide) dL_law_561 dL_law_562 ?_
  refine la_call (As := [jI (xs (i + 1)), jI (xs (i + 2)), jI (xs (i + 3))]) (rest := []) hx hb hown hml hts hK hJ hN hA hcs kL_563 (c_ifRope l G S hC (Inv_bits hI.1) (Inv_dc hI.1) (xs (i + 1)) (xs (i + 2)) (xs (i + 3))) ⟨by decide, rfl⟩ rfl (fun q hq => by simp only [List.mem_cons, List.not_mem_nil, or_false] at hq; rcases hq with h | h | h <;> cases h) rfl (Nat.le_of_ble_eq_true rfl) hl hW hS (fun x1 G1 H locs hq hW hS => ?_)
  obtain ⟨e1, hC1, hf1⟩ := hq
  refine lv_aload_n hx hb dL_law_566 rfl (lv_at hl 1 rfl) ?_
  refine la_arg (k := 1) hx hb hX hbl hS hl (by omega) hL dL_law_567 dL_law_568 dL_law_569 (by decide) dL_law_570 dL_law_571 ?_
  refine la_arg (k := 2) hx hb hX hbl hS hl (by omega) hL dL_law_572 dL_law_573 dL_law_574 (by decide) dL_law_575 dL_law_576 ?_
  refine la_arg (k := 3) hx hb hX hbl hS hl (by omega) hL dL_law_577 dL_law_578 dL_law_579 (by decide) dL_law_580 dL_law_581 ?_
  refine la_call (As := [jI (xs (i + 1)), jI (xs (i + 2)), jI (xs (i + 3))]) (rest := [.int x1]) hx hb hown hml hts hK hJ hN hA hcs kL_582 (m_ifRope l G1 S (MR_frC hM hf1) hI.1.1 (xs (i + 1)) (xs (i + 2)) (xs (i + 3))) ⟨by decide, rfl⟩ rfl (fun q hq => by simp only [List.mem_cons, List.not_mem_nil, or_false] at hq; rcases hq with h | h | h <;> cases h) rfl (Nat.le_of_ble_eq_true rfl) hl hW hS (fun x2 G2 H locs hq hW hS => ?_)
  obtain ⟨e2, hM2, hf2⟩ := hq
  refine lv_icmp_eq hx hb dL_law_585 (tgt := 764) (by decide) (fun _ => ?_) (fun h => absurd (e1.trans e2.symm) h)
  exact kk _ H locs ⟨G2, CR_frM hC1 hf2, hM2, hI, hW, hS⟩
theorem la_bestRope (CC : la_C p s m meth c b L xs D ad cA cells slots) (hi : i + 4 ≤ L) (hl : lv_has ls 4 (la_L b ad i)) (hB : la_B s D ad cA S H locs)
    (kk : ∀ (S1 : jS) (H1 : Heap) (locs1 : List Loc), la_B s D ad cA S1 H1 locs1 → W p l e room_1 s m #[Value.ref b] below meth c H1 locs1 cells slots Q (F0 m 764 ls [])) : W p l e room_1 s m #[Value.ref b] below meth c H locs cells slots Q (F0 m 590 ls []) := by
  obtain ⟨⟨hx, hb, hown, hml, hts, hX, hbl⟩, hK, hJ, hN, hA, hcs, hL⟩ := CC
  obtain ⟨G, hC, hM, hI, hW, hS⟩ := hB
  refine lv_aload_n hx hb dL_law_590 rfl (lv_at hl 2 rfl) ?_
  refine la_arg (k := 1) hx hb hX hbl hS hl (by omega) hL dL_law_591 dL_law_592 dL_law_593 (by decide) dL_law_594 dL_law_595 ?_
  refine la_call (As := [jI (xs (i + 1))]) (rest := []) hx hb hown hml hts hK hJ hN hA hcs kL_596 (c_bestRope l G S hC (Inv_bits hI.1) (Inv_dc hI.1) (xs (i + 1))) ⟨by decide, rfl⟩ rfl (fun q hq => by simp only [List.mem_cons, List.not_mem_nil, or_false] at hq; cases hq) rfl (Nat.le_of_ble_eq_true rfl) hl hW hS (fun x1 G1 H locs hq hW hS => ?_)
  obtain ⟨e1, hC1, hf1⟩ := hq
  refine lv_aload_n hx hb dL_law_599 rfl (lv_at hl 1 rfl) ?_
  refine la_arg (k := 1) hx hb hX hbl hS hl (by omega) hL dL_law_600 dL_law_601 dL_law_602 (by decide) dL_law_603 dL_law_604 ?_
  refine la_call (As := [jI (xs (i + 1))]) (rest := [.int x1]) hx hb hown hml hts hK hJ hN hA hcs kL_605 (m_bestRope l G1 S (MR_frC hM hf1) hI.1.1 (xs (i + 1))) ⟨by decide, rfl⟩ rfl (fun q hq => by simp only [List.mem_cons, List.not_mem_nil, or_false] at hq; cases hq) rfl (Nat.le_of_ble_eq_true rfl) hl hW hS (fun x2 G2 H locs hq hW hS => ?_)
  obtain ⟨e2, hM2, hf2⟩ := hq
  refine lv_icmp_eq hx hb dL_law_608 (tgt := 764) (by decide) (fun _ => ?_) (fun h => absurd (e1.trans e2.symm) h)
  exact kk _ H locs ⟨G2, CR_frM hC1 hf2, hM2, hI, hW, hS⟩
theorem la_waiting (CC : la_C p s m meth c b L xs D ad cA cells slots) (hi : i + 4 ≤ L) (hl : lv_has ls 4 (la_L b ad i)) (hB : la_B s D ad cA S H locs)
    (kk : ∀ (S1 : jS) (H1 : Heap) (locs1 : List Loc), la_B s D ad cA S1 H1 locs1 → W p l e room_1 s m #[Value.ref b] below meth c H1 locs1 cells slots Q (F0 m 764 ls [])) : W p l e room_1 s m #[Value.ref b] below meth c H locs cells slots Q (F0 m 613 ls []) := by
  obtain ⟨⟨hx, hb, hown, hml, hts, hX, hbl⟩, hK, hJ, hN, hA, hcs, hL⟩ := CC
  obtain ⟨G, hC, hM, hI, hW, hS⟩ := hB
  refine lv_aload_n hx hb dL_law_613 rfl (lv_at hl 2 rfl) ?_
  refine la_call (As := []) (rest := []) hx hb hown hml hts hK hJ hN hA hcs kL_614 (c_waiting l G S hC (Inv_bits hI.1) (Inv_dc hI.1)) ⟨by decide, rfl⟩ rfl (fun q hq => by cases hq) rfl (Nat.le_of_ble_eq_true rfl) hl hW hS (fun x1 G1 H locs hq hW hS => ?_)
  obtain ⟨e1, hC1, hf1⟩ := hq
  refine lv_aload_n hx hb dL_law_617 rfl (lv_at hl 1 rfl) ?_
  refine la_call (As := []) (rest := [.int x1]) hx hb hown hml hts hK hJ hN hA hcs kL_618 (m_waiting l G1 S (MR_frC hM hf1) hI.1.1) ⟨by decide, rfl⟩ rfl (fun q hq => by cases hq) rfl (Nat.le_of_ble_eq_true rfl) hl hW hS (fun x2 G2 H locs hq hW hS => ?_)
  obtain ⟨e2, hM2, hf2⟩ := hq
  refine lv_icmp_eq hx hb dL_law_621 (tgt := 764) (by decide) (fun _ => ?_) (fun h => absurd (e1.trans e2.symm) h)
  exact kk _ H locs ⟨G2, CR_frM hC1 hf2, hM2, hI, hW, hS⟩
theorem la_put (CC : la_C p s m meth c b L xs D ad cA cells slots) (hi : i + 4 ≤ L) (hl : lv_has ls 4 (la_L b ad i)) (hB : la_B s D ad cA S H locs)
    (kk : ∀ (S1 : jS) (H1 : Heap) (locs1 : List Loc), la_B s D ad cA S1 H1 locs1 → W p l e room_1 s m #[Value.ref b] below meth c H1 locs1 cells slots Q (F0 m 764 ls [])) : W p l e room_1 s m #[Value.ref b] below meth c H locs cells slots Q (F0 m 626 ls []) := by
  obtain ⟨⟨hx, hb, hown, hml, hts, hX, hbl⟩, hK, hJ, hN, hA, hcs, hL⟩ := CC
  obtain ⟨G, hC, hM, hI, hW, hS⟩ := hB
  have hcl9 : Jvm.Cond.constantLong RL 83 (4294967295) ∈ wsL_law := by decide +kernel
  refine lv_aload_n hx hb dL_law_626 rfl (lv_at hl 2 rfl) ?_
  refine la_argp hx hb hown (hts _ hcl9) hX hbl hS hl (by omega) hL dL_law_627 dL_law_628 dL_law_629 dL_law_630 dL_law_631 dL_law_632 dL_law_633 dL_law_635 dL_law_636 dL_law_637 dL_law_638 dL_law_639 dL_law_640 dL_law_641 dL_law_642 dL_law_645 dL_law_646 ?_
  refine la_call (As := [jL (pz (xs (i + 1)) (xs (i + 2)))]) (rest := []) hx hb hown hml hts hK hJ hN hA hcs kL_647 (c_put l G S hC (pz (xs (i + 1)) (xs (i + 2)))) ⟨by decide, rfl⟩ rfl (fun q hq => by simp only [List.mem_cons, List.not_mem_nil, or_false] at hq; cases hq) rfl (Nat.le_of_ble_eq_true rfl) hl hW hS (fun x1 G1 H locs hq hW hS => ?_)
  obtain ⟨e1, hC1, hf1⟩ := hq
  refine lv_aload_n hx hb dL_law_650 rfl (lv_at hl 1 rfl) ?_
  refine la_argp hx hb hown (hts _ hcl9) hX hbl hS hl (by omega) hL dL_law_651 dL_law_652 dL_law_653 dL_law_654 dL_law_655 dL_law_656 dL_law_657 dL_law_659 dL_law_660 dL_law_661 dL_law_662 dL_law_663 dL_law_664 dL_law_665 dL_law_666 dL_law_669 dL_law_670 ?_
  refine la_call (As := [jL (pz (xs (i + 1)) (xs (i + 2)))]) (rest := [.int x1]) hx hb hown hml hts hK hJ hN hA hcs kL_671 (m_put l G1 S (MR_frC hM hf1) (pz (xs (i + 1)) (xs (i + 2)))) ⟨by decide, rfl⟩ rfl (fun q hq => by simp only [List.mem_cons, List.not_mem_nil, or_false] at hq; cases hq) rfl (Nat.le_of_ble_eq_true rfl) hl hW hS (fun x2 G2 H locs hq hW hS => ?_)
  obtain ⟨e2, hM2, hf2⟩ := hq
  refine lv_icmp_eq hx hb dL_law_674 (tgt := 764) (by decide) (fun _ => ?_) (fun h => absurd (e1.trans e2.symm) h)
  exact kk _ H locs ⟨G2, CR_frM hC1 hf2, hM2, Inv_put hI (pz (xs (i + 1)) (xs (i + 2))), hW, hS⟩
theorem la_wipe (CC : la_C p s m meth c b L xs D ad cA cells slots) (hi : i + 4 ≤ L) (hl : lv_has ls 4 (la_L b ad i)) (hB : la_B s D ad cA S H locs)
    (kk : ∀ (S1 : jS) (H1 : Heap) (locs1 : List Loc), la_B s D ad cA S1 H1 locs1 → W p l e room_1 s m #[Value.ref b] below meth c H1 locs1 cells slots Q (F0 m 764 ls [])) : W p l e room_1 s m #[Value.ref b] below meth c H locs cells slots Q (F0 m 679 ls []) := by
  obtain ⟨⟨hx, hb, hown, hml, hts, hX, hbl⟩, hK, hJ, hN, hA, hcs, hL⟩ := CC
  obtain ⟨G, hC, hM, hI, hW, hS⟩ := hB
  refine lv_aload_n hx hb dL_law_679 rfl (lv_at hl 2 rfl) ?_
  refine la_call (As := []) (rest := []) hx hb hown hml hts hK hJ hN hA hcs kL_680 (c_wipe l G S hC ) ⟨by decide, rfl⟩ rfl (fun q hq => by cases hq) rfl (Nat.le_of_ble_eq_true rfl) hl hW hS (fun x1 G1 H locs hq hW hS => ?_)
  obtain ⟨e1, hC1, hf1⟩ := hq
  refine lv_aload_n hx hb dL_law_683 rfl (lv_at hl 1 rfl) ?_
  refine la_call (As := []) (rest := [.int x1]) hx hb hown hml hts hK hJ hN hA hcs kL_684 (m_wipe l G1 S (MR_frC hM hf1) ) ⟨by decide, rfl⟩ rfl (fun q hq => by cases hq) rfl (Nat.le_of_ble_eq_true rfl) hl hW hS (fun x2 G2 H locs hq hW hS => ?_)
  obtain ⟨e2, hM2, hf2⟩ := hq
  refine lv_icmp_eq hx hb dL_law_687 (tgt := 764) (by decide) (fun _ => ?_) (fun h => absurd (e1.trans e2.symm) h)
  exact kk _ H locs ⟨G2, CR_frM hC1 hf2, hM2, Inv_wipe hI, hW, hS⟩
theorem la_fault (CC : la_C p s m meth c b L xs D ad cA cells slots) (hi : i + 4 ≤ L) (hl : lv_has ls 4 (la_L b ad i)) (hB : la_B s D ad cA S H locs)
    (kk : ∀ (S1 : jS) (H1 : Heap) (locs1 : List Loc), la_B s D ad cA S1 H1 locs1 → W p l e room_1 s m #[Value.ref b] below meth c H1 locs1 cells slots Q (F0 m 764 ls [])) : W p l e room_1 s m #[Value.ref b] below meth c H locs cells slots Q (F0 m 692 ls []) := by
  obtain ⟨⟨hx, hb, hown, hml, hts, hX, hbl⟩, hK, hJ, hN, hA, hcs, hL⟩ := CC
  obtain ⟨G, hC, hM, hI, hW, hS⟩ := hB
  refine lv_aload_n hx hb dL_law_692 rfl (lv_at hl 2 rfl) ?_
  refine la_call (As := []) (rest := []) hx hb hown hml hts hK hJ hN hA hcs kL_693 (c_fault l G S hC ) ⟨by decide, rfl⟩ rfl (fun q hq => by cases hq) rfl (Nat.le_of_ble_eq_true rfl) hl hW hS (fun x1 G1 H locs hq hW hS => ?_)
  obtain ⟨e1, hC1, hf1⟩ := hq
  refine lv_aload_n hx hb dL_law_696 rfl (lv_at hl 1 rfl) ?_
  refine la_call (As := []) (rest := [.int x1]) hx hb hown hml hts hK hJ hN hA hcs kL_697 (m_fault l G1 S (MR_frC hM hf1) ) ⟨by decide, rfl⟩ rfl (fun q hq => by cases hq) rfl (Nat.le_of_ble_eq_true rfl) hl hW hS (fun x2 G2 H locs hq hW hS => ?_)
  obtain ⟨e2, hM2, hf2⟩ := hq
  refine lv_icmp_eq hx hb dL_law_700 (tgt := 764) (by decide) (fun _ => ?_) (fun h => absurd (e1.trans e2.symm) h)
  exact kk _ H locs ⟨G2, CR_frM hC1 hf2, hM2, hI, hW, hS⟩
theorem la_undo (CC : la_C p s m meth c b L xs D ad cA cells slots) (hi : i + 4 ≤ L) (hl : lv_has ls 4 (la_L b ad i)) (hB : la_B s D ad cA S H locs)
    (kk : ∀ (S1 : jS) (H1 : Heap) (locs1 : List Loc), la_B s D ad cA S1 H1 locs1 → W p l e room_1 s m #[Value.ref b] below meth c H1 locs1 cells slots Q (F0 m 764 ls [])) : W p l e room_1 s m #[Value.ref b] below meth c H locs cells slots Q (F0 m 705 ls []) := by
  obtain ⟨⟨hx, hb, hown, hml, hts, hX, hbl⟩, hK, hJ, hN, hA, hcs, hL⟩ := CC
  obtain ⟨G, hC, hM, hI, hW, hS⟩ := hB
  refine lv_aload_n hx hb dL_law_705 rfl (lv_at hl 2 rfl) ?_
  refine la_call (As := []) (rest := []) hx hb hown hml hts hK hJ hN hA hcs kL_706 (c_undo l G S hC (fun i hi => Inv_bits (hI.2.1 i hi))) ⟨by decide, rfl⟩ rfl (fun q hq => by cases hq) rfl (Nat.le_of_ble_eq_true rfl) hl hW hS (fun x1 G1 H locs hq hW hS => ?_)
  obtain ⟨e1, hC1, hf1⟩ := hq
  refine lv_aload_n hx hb dL_law_709 rfl (lv_at hl 1 rfl) ?_
  refine la_call (As := []) (rest := [.int x1]) hx hb hown hml hts hK hJ hN hA hcs kL_710 (m_undo l G1 S (MR_frC hM hf1) ) ⟨by decide, rfl⟩ rfl (fun q hq => by cases hq) rfl (Nat.le_of_ble_eq_true rfl) hl hW hS (fun x2 G2 H locs hq hW hS => ?_)
  obtain ⟨e2, hM2, hf2⟩ := hq
  refine lv_icmp_eq hx hb dL_law_713 (tgt := 764) (by decide) (fun _ => ?_) (fun h => absurd (e1.trans e2.symm) h)
  exact kk _ H locs ⟨G2, CR_frM hC1 hf2, hM2, Inv_undo hI, hW, hS⟩
theorem la_save (CC : la_C p s m meth c b L xs D ad cA cells slots) (hi : i + 4 ≤ L) (hl : lv_has ls 4 (la_L b ad i)) (hB : la_B s D ad cA S H locs)
    (kk : ∀ (S1 : jS) (H1 : Heap) (locs1 : List Loc), la_B s D ad cA S1 H1 locs1 → W p l e room_1 s m #[Value.ref b] below meth c H1 locs1 cells slots Q (F0 m 764 ls [])) : W p l e room_1 s m #[Value.ref b] below meth c H locs cells slots Q (F0 m 718 ls []) := by
  obtain ⟨⟨hx, hb, hown, hml, hts, hX, hbl⟩, hK, hJ, hN, hA, hcs, hL⟩ := CC
  obtain ⟨G, hC, hM, hI, hW, hS⟩ := hB
  refine lv_aload_n hx hb dL_law_718 rfl (lv_at hl 2 rfl) ?_
  refine la_arg (k := 1) hx hb hX hbl hS hl (by omega) hL dL_law_719 dL_law_720 dL_law_721 (by decide) dL_law_722 dL_law_723 ?_
  refine la_call (As := [jI (xs (i + 1))]) (rest := []) hx hb hown hml hts hK hJ hN hA hcs kL_724 (c_save l G S hC (Inv_bits hI.1) (xs (i + 1))) ⟨by decide, rfl⟩ rfl (fun q hq => by simp only [List.mem_cons, List.not_mem_nil, or_false] at hq; cases hq) rfl (Nat.le_of_ble_eq_true rfl) hl hW hS (fun x1 G1 H locs hq hW hS => ?_)
  obtain ⟨e1, hC1, hf1⟩ := hq
  refine lv_aload_n hx hb dL_law_727 rfl (lv_at hl 1 rfl) ?_
  refine la_arg (k := 1) hx hb hX hbl hS hl (by omega) hL dL_law_728 dL_law_729 dL_law_730 (by decide) dL_law_731 dL_law_732 ?_
  refine la_call (As := [jI (xs (i + 1))]) (rest := [.int x1]) hx hb hown hml hts hK hJ hN hA hcs kL_733 (m_save l G1 S (MR_frC hM hf1) (xs (i + 1))) ⟨by decide, rfl⟩ rfl (fun q hq => by simp only [List.mem_cons, List.not_mem_nil, or_false] at hq; cases hq) rfl (Nat.le_of_ble_eq_true rfl) hl hW hS (fun x2 G2 H locs hq hW hS => ?_)
  obtain ⟨e2, hM2, hf2⟩ := hq
  refine lv_icmp_eq hx hb dL_law_736 (tgt := 764) (by decide) (fun _ => ?_) (fun h => absurd (e1.trans e2.symm) h)
  exact kk _ H locs ⟨G2, CR_frM hC1 hf2, hM2, Inv_save hI (xs (i + 1)), hW, hS⟩
theorem la_restore (CC : la_C p s m meth c b L xs D ad cA cells slots) (hi : i + 4 ≤ L) (hl : lv_has ls 4 (la_L b ad i)) (hB : la_B s D ad cA S H locs)
    (kk : ∀ (S1 : jS) (H1 : Heap) (locs1 : List Loc), la_B s D ad cA S1 H1 locs1 → W p l e room_1 s m #[Value.ref b] below meth c H1 locs1 cells slots Q (F0 m 764 ls [])) : W p l e room_1 s m #[Value.ref b] below meth c H locs cells slots Q (F0 m 741 ls []) := by
  obtain ⟨⟨hx, hb, hown, hml, hts, hX, hbl⟩, hK, hJ, hN, hA, hcs, hL⟩ := CC
  obtain ⟨G, hC, hM, hI, hW, hS⟩ := hB
  refine lv_aload_n hx hb dL_law_741 rfl (lv_at hl 2 rfl) ?_
  refine la_arg (k := 1) hx hb hX hbl hS hl (by omega) hL dL_law_742 dL_law_743 dL_law_744 (by decide) dL_law_745 dL_law_746 ?_
  refine la_call (As := [jI (xs (i + 1))]) (rest := []) hx hb hown hml hts hK hJ hN hA hcs kL_747 (c_restore l G S hC (Inv_bits hI.1) (fun i hi h => Inv_bits (hI.2.2 i hi h)) (xs (i + 1))) ⟨by decide, rfl⟩ rfl (fun q hq => by simp only [List.mem_cons, List.not_mem_nil, or_false] at hq; cases hq) rfl (Nat.le_of_ble_eq_true rfl) hl hW hS (fun x1 G1 H locs hq hW hS => ?_)
  obtain ⟨e1, hC1, hf1⟩ := hq
  refine lv_aload_n hx hb dL_law_750 rfl (lv_at hl 1 rfl) ?_
  refine la_arg (k := 1) hx hb hX hbl hS hl (by omega) hL dL_law_751 dL_law_752 dL_law_753 (by decide) dL_law_754 dL_law_755 ?_
  refine la_call (As := [jI (xs (i + 1))]) (rest := [.int x1]) hx hb hown hml hts hK hJ hN hA hcs kL_756 (m_restore l G1 S (MR_frC hM hf1) (xs (i + 1))) ⟨by decide, rfl⟩ rfl (fun q hq => by simp only [List.mem_cons, List.not_mem_nil, or_false] at hq; cases hq) rfl (Nat.le_of_ble_eq_true rfl) hl hW hS (fun x2 G2 H locs hq hW hS => ?_)
  obtain ⟨e2, hM2, hf2⟩ := hq
  refine lv_icmp_eq hx hb dL_law_759 (tgt := 764) (by decide) (fun _ => ?_) (fun h => absurd (e1.trans e2.symm) h)
  exact kk _ H locs ⟨G2, CR_frM hC1 hf2, hM2, Inv_restore hI (xs (i + 1)), hW, hS⟩
end LC
