/-! ===== the law: cases 1 ===== -/
theorem lc_cmp (r : Int64) : lg_cmp r r = 0 := by
  unfold lg_cmp
  simp
section LcCase
variable {p : Program} {l : Launch} {e : Env} {s : State} {m : MethodId} {below : List Frame} {meth : Method} {c : Code} {H : Heap} {locs : List Loc} {cells slots : Nat} {Q : State → Prop} {g : zzG} {b L i k pc : Nat} {xs : Nat → Int32} {q q' : Nat → Nat} {ux uy : zzS} {ls : Array Slot} {rest : List Value} {n : Int} {kc : Int32}
set_option maxHeartbeats 4000000 in
set_option maxRecDepth 100000 in
theorem lc_field (C : lcC g p s m c b L xs) (hL : L ≤ 448) (hi : i + 7 ≤ L) (hV : lcV g s q q' ux uy H locs) (hR : qR ux uy) (hl : lv_has ls 4 [(0, .ref b), (1, .ref (q 0)), (2, .ref (q' 0)), (3, .int (nI i))]) (kk : ∀ (H : Heap) (locs : List Loc) (ux uy : zzS), lcV g s q q' ux uy H locs → qR ux uy → W p l e room_1 s m #[Value.ref b] below meth c H locs 36 700 Q (F0 m 1132 ls [])) : W p l e room_1 s m #[Value.ref b] below meth c H locs 36 700 Q (F0 m 168 ls []) := by
  obtain ⟨hPX, hDX, hPY, hDY, hap, hS⟩ := hV
  have hx := C.1.1.1
  have hb := C.1.1.2.1
  obtain ⟨r, ux', uy', ex, ey, hR'⟩ := e_field hR (xs (i + 1)) (xs (i + 2)) (xs (i + 3)) (xs (i + 4))
  refine lv_aload_n hx hb dL_law_168 rfl (lv_at hl 1 rfl) ?_
  refine lc_arg C hS (i := i) (k := 1) (kc := (1 : Int32)) (by decide) rfl (by omega) hL (lv_at hl 0 rfl) (lv_at hl 3 rfl) dL_law_169 dL_law_170 dL_law_171 dL_law_172 dL_law_173 ?_
  refine lc_arg C hS (i := i) (k := 2) (kc := (2 : Int32)) (by decide) rfl (by omega) hL (lv_at hl 0 rfl) (lv_at hl 3 rfl) dL_law_174 dL_law_175 dL_law_176 dL_law_177 dL_law_178 ?_
  refine lc_arg C hS (i := i) (k := 3) (kc := (3 : Int32)) (by decide) rfl (by omega) hL (lv_at hl 0 rfl) (lv_at hl 3 rfl) dL_law_179 dL_law_180 dL_law_181 dL_law_182 dL_law_183 ?_
  refine lc_arg C hS (i := i) (k := 4) (kc := (4 : Int32)) (by decide) rfl (by omega) hL (lv_at hl 0 rfl) (lv_at hl 3 rfl) dL_law_184 dL_law_185 dL_law_186 dL_law_187 dL_law_188 ?_
  refine lc_cVi C.1 hPX hDX hPY hap hS (kX4_field l g q _ ux _ _ _ _ _ ex) gL_law_X4_field mX4_field (by decide) ⟨(Nat.le_of_ble_eq_true rfl), (Nat.le_of_ble_eq_true rfl)⟩ 0 rfl rfl rfl rfl (rest := []) rfl hl.1 (Nat.le_of_ble_eq_true rfl) dL_law_189 (fun H locs hPX hDX hPY hap hS => ?_)
  refine lv_aload_n hx hb dL_law_192 rfl (lv_at hl 2 rfl) ?_
  refine lc_arg C hS (i := i) (k := 1) (kc := (1 : Int32)) (by decide) rfl (by omega) hL (lv_at hl 0 rfl) (lv_at hl 3 rfl) dL_law_193 dL_law_194 dL_law_195 dL_law_196 dL_law_197 ?_
  refine lc_arg C hS (i := i) (k := 2) (kc := (2 : Int32)) (by decide) rfl (by omega) hL (lv_at hl 0 rfl) (lv_at hl 3 rfl) dL_law_198 dL_law_199 dL_law_200 dL_law_201 dL_law_202 ?_
  refine lc_arg C hS (i := i) (k := 3) (kc := (3 : Int32)) (by decide) rfl (by omega) hL (lv_at hl 0 rfl) (lv_at hl 3 rfl) dL_law_203 dL_law_204 dL_law_205 dL_law_206 dL_law_207 ?_
  refine lc_arg C hS (i := i) (k := 4) (kc := (4 : Int32)) (by decide) rfl (by omega) hL (lv_at hl 0 rfl) (lv_at hl 3 rfl) dL_law_208 dL_law_209 dL_law_210 dL_law_211 dL_law_212 ?_
  refine lc_cVi C.1 hPY hDY hPX (zz_aps hap) hS (kX5_field l g q' _ uy _ _ _ _ _ ey) gL_law_X5_field mX5_field (by decide) ⟨(Nat.le_of_ble_eq_true rfl), (Nat.le_of_ble_eq_true rfl)⟩ 0 rfl rfl rfl rfl (rest := [.int r]) rfl hl.1 (Nat.le_of_ble_eq_true rfl) dL_law_213 (fun H locs hPY hDY hPX hap hS => ?_)
  refine lv_icmp_eq (tgt := 1132) hx hb dL_law_216 (by decide) (fun _ => ?_) (fun h => absurd rfl h)
  exact kk H locs ux' uy' ⟨hPX, hDX, hPY, hDY, zz_aps hap, hS⟩ hR'
set_option maxHeartbeats 4000000 in
set_option maxRecDepth 100000 in
theorem lc_ofStander (C : lcC g p s m c b L xs) (hL : L ≤ 448) (hi : i + 7 ≤ L) (hV : lcV g s q q' ux uy H locs) (hR : qR ux uy) (hl : lv_has ls 4 [(0, .ref b), (1, .ref (q 0)), (2, .ref (q' 0)), (3, .int (nI i))]) (kk : ∀ (H : Heap) (locs : List Loc) (ux uy : zzS), lcV g s q q' ux uy H locs → qR ux uy → W p l e room_1 s m #[Value.ref b] below meth c H locs 36 700 Q (F0 m 1132 ls [])) : W p l e room_1 s m #[Value.ref b] below meth c H locs 36 700 Q (F0 m 221 ls []) := by
  obtain ⟨hPX, hDX, hPY, hDY, hap, hS⟩ := hV
  have hx := C.1.1.1
  have hb := C.1.1.2.1
  obtain ⟨r, ex, ey⟩ := e_ofStander hR (xs (i + 1)) (xs (i + 2))
  refine lv_aload_n hx hb dL_law_221 rfl (lv_at hl 1 rfl) ?_
  refine lc_arg C hS (i := i) (k := 1) (kc := (1 : Int32)) (by decide) rfl (by omega) hL (lv_at hl 0 rfl) (lv_at hl 3 rfl) dL_law_222 dL_law_223 dL_law_224 dL_law_225 dL_law_226 ?_
  refine lc_arg C hS (i := i) (k := 2) (kc := (2 : Int32)) (by decide) rfl (by omega) hL (lv_at hl 0 rfl) (lv_at hl 3 rfl) dL_law_227 dL_law_228 dL_law_229 dL_law_230 dL_law_231 ?_
  refine lc_cVi C.1 hPX hDX hPY hap hS (kX4_ofStander l g q _ ux _ _ _ ex) gL_law_X4_ofStander mX4_ofStander (by decide) ⟨(Nat.le_of_ble_eq_true rfl), (Nat.le_of_ble_eq_true rfl)⟩ 0 rfl rfl rfl rfl (rest := []) rfl hl.1 (Nat.le_of_ble_eq_true rfl) dL_law_232 (fun H locs hPX hDX hPY hap hS => ?_)
  refine lv_aload_n hx hb dL_law_235 rfl (lv_at hl 2 rfl) ?_
  refine lc_arg C hS (i := i) (k := 1) (kc := (1 : Int32)) (by decide) rfl (by omega) hL (lv_at hl 0 rfl) (lv_at hl 3 rfl) dL_law_236 dL_law_237 dL_law_238 dL_law_239 dL_law_240 ?_
  refine lc_arg C hS (i := i) (k := 2) (kc := (2 : Int32)) (by decide) rfl (by omega) hL (lv_at hl 0 rfl) (lv_at hl 3 rfl) dL_law_241 dL_law_242 dL_law_243 dL_law_244 dL_law_245 ?_
  refine lc_cVi C.1 hPY hDY hPX (zz_aps hap) hS (kX5_ofStander l g q' _ uy _ _ _ ey) gL_law_X5_ofStander mX5_ofStander (by decide) ⟨(Nat.le_of_ble_eq_true rfl), (Nat.le_of_ble_eq_true rfl)⟩ 0 rfl rfl rfl rfl (rest := [.int r]) rfl hl.1 (Nat.le_of_ble_eq_true rfl) dL_law_246 (fun H locs hPY hDY hPX hap hS => ?_)
  refine lv_icmp_eq (tgt := 1132) hx hb dL_law_249 (by decide) (fun _ => ?_) (fun h => absurd rfl h)
  exact kk H locs ux uy ⟨hPX, hDX, hPY, hDY, zz_aps hap, hS⟩ hR
set_option maxHeartbeats 4000000 in
set_option maxRecDepth 100000 in
theorem lc_walk (C : lcC g p s m c b L xs) (hL : L ≤ 448) (hi : i + 7 ≤ L) (hV : lcV g s q q' ux uy H locs) (hR : qR ux uy) (hl : lv_has ls 4 [(0, .ref b), (1, .ref (q 0)), (2, .ref (q' 0)), (3, .int (nI i))]) (kk : ∀ (H : Heap) (locs : List Loc) (ux uy : zzS), lcV g s q q' ux uy H locs → qR ux uy → W p l e room_1 s m #[Value.ref b] below meth c H locs 36 700 Q (F0 m 1132 ls [])) : W p l e room_1 s m #[Value.ref b] below meth c H locs 36 700 Q (F0 m 254 ls []) := by
  obtain ⟨hPX, hDX, hPY, hDY, hap, hS⟩ := hV
  have hx := C.1.1.1
  have hb := C.1.1.2.1
  obtain ⟨r, ux', uy', ex, ey, hR'⟩ := e_walk hR (xs (i + 1)) (xs (i + 2))
  refine lv_aload_n hx hb dL_law_254 rfl (lv_at hl 1 rfl) ?_
  refine lc_arg C hS (i := i) (k := 1) (kc := (1 : Int32)) (by decide) rfl (by omega) hL (lv_at hl 0 rfl) (lv_at hl 3 rfl) dL_law_255 dL_law_256 dL_law_257 dL_law_258 dL_law_259 ?_
  refine lc_arg C hS (i := i) (k := 2) (kc := (2 : Int32)) (by decide) rfl (by omega) hL (lv_at hl 0 rfl) (lv_at hl 3 rfl) dL_law_260 dL_law_261 dL_law_262 dL_law_263 dL_law_264 ?_
  refine lc_cVi C.1 hPX hDX hPY hap hS (kX4_walk l g q _ ux _ _ _ ex) gL_law_X4_walk mX4_walk (by decide) ⟨(Nat.le_of_ble_eq_true rfl), (Nat.le_of_ble_eq_true rfl)⟩ 0 rfl rfl rfl rfl (rest := []) rfl hl.1 (Nat.le_of_ble_eq_true rfl) dL_law_265 (fun H locs hPX hDX hPY hap hS => ?_)
  refine lv_aload_n hx hb dL_law_268 rfl (lv_at hl 2 rfl) ?_
  refine lc_arg C hS (i := i) (k := 1) (kc := (1 : Int32)) (by decide) rfl (by omega) hL (lv_at hl 0 rfl) (lv_at hl 3 rfl) dL_law_269 dL_law_270 dL_law_271 dL_law_272 dL_law_273 ?_
  refine lc_arg C hS (i := i) (k := 2) (kc := (2 : Int32)) (by decide) rfl (by omega) hL (lv_at hl 0 rfl) (lv_at hl 3 rfl) dL_law_274 dL_law_275 dL_law_276 dL_law_277 dL_law_278 ?_
  refine lc_cVi C.1 hPY hDY hPX (zz_aps hap) hS (kX5_walk l g q' _ uy _ _ _ ey) gL_law_X5_walk mX5_walk (by decide) ⟨(Nat.le_of_ble_eq_true rfl), (Nat.le_of_ble_eq_true rfl)⟩ 0 rfl rfl rfl rfl (rest := [.int r]) rfl hl.1 (Nat.le_of_ble_eq_true rfl) dL_law_279 (fun H locs hPY hDY hPX hap hS => ?_)
  refine lv_icmp_eq (tgt := 1132) hx hb dL_law_282 (by decide) (fun _ => ?_) (fun h => absurd rfl h)
  exact kk H locs ux' uy' ⟨hPX, hDX, hPY, hDY, zz_aps hap, hS⟩ hR'
set_option maxHeartbeats 4000000 in
set_option maxRecDepth 100000 in
theorem lc_grow (C : lcC g p s m c b L xs) (hL : L ≤ 448) (hi : i + 7 ≤ L) (hV : lcV g s q q' ux uy H locs) (hR : qR ux uy) (hl : lv_has ls 4 [(0, .ref b), (1, .ref (q 0)), (2, .ref (q' 0)), (3, .int (nI i))]) (kk : ∀ (H : Heap) (locs : List Loc) (ux uy : zzS), lcV g s q q' ux uy H locs → qR ux uy → W p l e room_1 s m #[Value.ref b] below meth c H locs 36 700 Q (F0 m 1132 ls [])) : W p l e room_1 s m #[Value.ref b] below meth c H locs 36 700 Q (F0 m 287 ls []) := by
  obtain ⟨hPX, hDX, hPY, hDY, hap, hS⟩ := hV
  have hx := C.1.1.1
  have hb := C.1.1.2.1
  obtain ⟨r, ux', uy', ex, ey, hR'⟩ := e_grow hR (xs (i + 1)) (xs (i + 2))
  refine lv_aload_n hx hb dL_law_287 rfl (lv_at hl 1 rfl) ?_
  refine lc_arg C hS (i := i) (k := 1) (kc := (1 : Int32)) (by decide) rfl (by omega) hL (lv_at hl 0 rfl) (lv_at hl 3 rfl) dL_law_288 dL_law_289 dL_law_290 dL_law_291 dL_law_292 ?_
  refine lc_arg C hS (i := i) (k := 2) (kc := (2 : Int32)) (by decide) rfl (by omega) hL (lv_at hl 0 rfl) (lv_at hl 3 rfl) dL_law_293 dL_law_294 dL_law_295 dL_law_296 dL_law_297 ?_
  refine lc_cVi C.1 hPX hDX hPY hap hS (kX4_grow l g q _ ux _ _ _ ex) gL_law_X4_grow mX4_grow (by decide) ⟨(Nat.le_of_ble_eq_true rfl), (Nat.le_of_ble_eq_true rfl)⟩ 0 rfl rfl rfl rfl (rest := []) rfl hl.1 (Nat.le_of_ble_eq_true rfl) dL_law_298 (fun H locs hPX hDX hPY hap hS => ?_)
  refine lv_aload_n hx hb dL_law_301 rfl (lv_at hl 2 rfl) ?_
  refine lc_arg C hS (i := i) (k := 1) (kc := (1 : Int32)) (by decide) rfl (by omega) hL (lv_at hl 0 rfl) (lv_at hl 3 rfl) dL_law_302 dL_law_303 dL_law_304 dL_law_305 dL_law_306 ?_
  refine lc_arg C hS (i := i) (k := 2) (kc := (2 : Int32)) (by decide) rfl (by omega) hL (lv_at hl 0 rfl) (lv_at hl 3 rfl) dL_law_307 dL_law_308 dL_law_309 dL_law_310 dL_law_311 ?_
  refine lc_cVi C.1 hPY hDY hPX (zz_aps hap) hS (kX5_grow l g q' _ uy _ _ _ ey) gL_law_X5_grow mX5_grow (by decide) ⟨(Nat.le_of_ble_eq_true rfl), (Nat.le_of_ble_eq_true rfl)⟩ 0 rfl rfl rfl rfl (rest := [.int r]) rfl hl.1 (Nat.le_of_ble_eq_true rfl) dL_law_312 (fun H locs hPY hDY hPX hap hS => ?_)
  refine lv_icmp_eq (tgt := 1132) hx hb dL_law_315 (by decide) (fun _ => ?_) (fun h => absurd rfl h)
  exact kk H locs ux' uy' ⟨hPX, hDX, hPY, hDY, zz_aps hap, hS⟩ hR'
set_option maxHeartbeats 4000000 in
set_option maxRecDepth 100000 in
theorem lc_build (C : lcC g p s m c b L xs) (hL : L ≤ 448) (hi : i + 7 ≤ L) (hV : lcV g s q q' ux uy H locs) (hR : qR ux uy) (hl : lv_has ls 4 [(0, .ref b), (1, .ref (q 0)), (2, .ref (q' 0)), (3, .int (nI i))]) (kk : ∀ (H : Heap) (locs : List Loc) (ux uy : zzS), lcV g s q q' ux uy H locs → qR ux uy → W p l e room_1 s m #[Value.ref b] below meth c H locs 36 700 Q (F0 m 1132 ls [])) : W p l e room_1 s m #[Value.ref b] below meth c H locs 36 700 Q (F0 m 320 ls []) := by
  obtain ⟨hPX, hDX, hPY, hDY, hap, hS⟩ := hV
  have hx := C.1.1.1
  have hb := C.1.1.2.1
  obtain ⟨r, ux', uy', ex, ey, hR'⟩ := e_build hR (xs (i + 1))
  refine lv_aload_n hx hb dL_law_320 rfl (lv_at hl 1 rfl) ?_
  refine lc_arg C hS (i := i) (k := 1) (kc := (1 : Int32)) (by decide) rfl (by omega) hL (lv_at hl 0 rfl) (lv_at hl 3 rfl) dL_law_321 dL_law_322 dL_law_323 dL_law_324 dL_law_325 ?_
  refine lc_cVi C.1 hPX hDX hPY hap hS (kX4_build l g q _ ux _ _ ex) gL_law_X4_build mX4_build (by decide) ⟨(Nat.le_of_ble_eq_true rfl), (Nat.le_of_ble_eq_true rfl)⟩ 0 rfl rfl rfl rfl (rest := []) rfl hl.1 (Nat.le_of_ble_eq_true rfl) dL_law_326 (fun H locs hPX hDX hPY hap hS => ?_)
  refine lv_aload_n hx hb dL_law_329 rfl (lv_at hl 2 rfl) ?_
  refine lc_arg C hS (i := i) (k := 1) (kc := (1 : Int32)) (by decide) rfl (by omega) hL (lv_at hl 0 rfl) (lv_at hl 3 rfl) dL_law_330 dL_law_331 dL_law_332 dL_law_333 dL_law_334 ?_
  refine lc_cVi C.1 hPY hDY hPX (zz_aps hap) hS (kX5_build l g q' _ uy _ _ ey) gL_law_X5_build mX5_build (by decide) ⟨(Nat.le_of_ble_eq_true rfl), (Nat.le_of_ble_eq_true rfl)⟩ 0 rfl rfl rfl rfl (rest := [.int r]) rfl hl.1 (Nat.le_of_ble_eq_true rfl) dL_law_335 (fun H locs hPY hDY hPX hap hS => ?_)
  refine lv_icmp_eq (tgt := 1132) hx hb dL_law_338 (by decide) (fun _ => ?_) (fun h => absurd rfl h)
  exact kk H locs ux' uy' ⟨hPX, hDX, hPY, hDY, zz_aps hap, hS⟩ hR'
set_option maxHeartbeats 4000000 in
set_option maxRecDepth 100000 in
theorem lc_shade (C : lcC g p s m c b L xs) (hL : L ≤ 448) (hi : i + 7 ≤ L) (hV : lcV g s q q' ux uy H locs) (hR : qR ux uy) (hl : lv_has ls 4 [(0, .ref b), (1, .ref (q 0)), (2, .ref (q' 0)), (3, .int (nI i))]) (kk : ∀ (H : Heap) (locs : List Loc) (ux uy : zzS), lcV g s q q' ux uy H locs → qR ux uy → W p l e room_1 s m #[Value.ref b] below meth c H locs 36 700 Q (F0 m 1132 ls [])) : W p l e room_1 s m #[Value.ref b] below meth c H locs 36 700 Q (F0 m 343 ls []) := by
  obtain ⟨hPX, hDX, hPY, hDY, hap, hS⟩ := hV
  have hx := C.1.1.1
  have hb := C.1.1.2.1
  obtain ⟨r, ex, ey⟩ := e_shade hR (xs (i + 1)) (xs (i + 2))
  refine lv_aload_n hx hb dL_law_343 rfl (lv_at hl 1 rfl) ?_
  refine lc_arg C hS (i := i) (k := 1) (kc := (1 : Int32)) (by decide) rfl (by omega) hL (lv_at hl 0 rfl) (lv_at hl 3 rfl) dL_law_344 dL_law_345 dL_law_346 dL_law_347 dL_law_348 ?_
  refine lc_arg C hS (i := i) (k := 2) (kc := (2 : Int32)) (by decide) rfl (by omega) hL (lv_at hl 0 rfl) (lv_at hl 3 rfl) dL_law_349 dL_law_350 dL_law_351 dL_law_352 dL_law_353 ?_
  refine lc_cVi C.1 hPX hDX hPY hap hS (kX4_shade l g q _ ux _ _ _ ex) gL_law_X4_shade mX4_shade (by decide) ⟨(Nat.le_of_ble_eq_true rfl), (Nat.le_of_ble_eq_true rfl)⟩ 0 rfl rfl rfl rfl (rest := []) rfl hl.1 (Nat.le_of_ble_eq_true rfl) dL_law_354 (fun H locs hPX hDX hPY hap hS => ?_)
  refine lv_aload_n hx hb dL_law_357 rfl (lv_at hl 2 rfl) ?_
  refine lc_arg C hS (i := i) (k := 1) (kc := (1 : Int32)) (by decide) rfl (by omega) hL (lv_at hl 0 rfl) (lv_at hl 3 rfl) dL_law_358 dL_law_359 dL_law_360 dL_law_361 dL_law_362 ?_
  refine lc_arg C hS (i := i) (k := 2) (kc := (2 : Int32)) (by decide) rfl (by omega) hL (lv_at hl 0 rfl) (lv_at hl 3 rfl) dL_law_363 dL_law_364 dL_law_365 dL_law_366 dL_law_367 ?_
  refine lc_cVi C.1 hPY hDY hPX (zz_aps hap) hS (kX5_shade l g q' _ uy _ _ _ ey) gL_law_X5_shade mX5_shade (by decide) ⟨(Nat.le_of_ble_eq_true rfl), (Nat.le_of_ble_eq_true rfl)⟩ 0 rfl rfl rfl rfl (rest := [.int r]) rfl hl.1 (Nat.le_of_ble_eq_true rfl) dL_law_368 (fun H locs hPY hDY hPX hap hS => ?_)
  refine lv_icmp_eq (tgt := 1132) hx hb dL_law_371 (by decide) (fun _ => ?_) (fun h => absurd rfl h)
  exact kk H locs ux uy ⟨hPX, hDX, hPY, hDY, zz_aps hap, hS⟩ hR
set_option maxHeartbeats 4000000 in
set_option maxRecDepth 100000 in
theorem lc_hidden (C : lcC g p s m c b L xs) (hL : L ≤ 448) (hi : i + 7 ≤ L) (hV : lcV g s q q' ux uy H locs) (hR : qR ux uy) (hl : lv_has ls 4 [(0, .ref b), (1, .ref (q 0)), (2, .ref (q' 0)), (3, .int (nI i))]) (kk : ∀ (H : Heap) (locs : List Loc) (ux uy : zzS), lcV g s q q' ux uy H locs → qR ux uy → W p l e room_1 s m #[Value.ref b] below meth c H locs 36 700 Q (F0 m 1132 ls [])) : W p l e room_1 s m #[Value.ref b] below meth c H locs 36 700 Q (F0 m 376 ls []) := by
  obtain ⟨hPX, hDX, hPY, hDY, hap, hS⟩ := hV
  have hx := C.1.1.1
  have hb := C.1.1.2.1
  obtain ⟨r, ex, ey⟩ := e_hidden hR (xs (i + 1))
  refine lv_aload_n hx hb dL_law_376 rfl (lv_at hl 1 rfl) ?_
  refine lc_arg C hS (i := i) (k := 1) (kc := (1 : Int32)) (by decide) rfl (by omega) hL (lv_at hl 0 rfl) (lv_at hl 3 rfl) dL_law_377 dL_law_378 dL_law_379 dL_law_380 dL_law_381 ?_
  refine lc_cVi C.1 hPX hDX hPY hap hS (kX4_hidden l g q _ ux _ _ ex) gL_law_X4_hidden mX4_hidden (by decide) ⟨(Nat.le_of_ble_eq_true rfl), (Nat.le_of_ble_eq_true rfl)⟩ 0 rfl rfl rfl rfl (rest := []) rfl hl.1 (Nat.le_of_ble_eq_true rfl) dL_law_382 (fun H locs hPX hDX hPY hap hS => ?_)
  refine lv_aload_n hx hb dL_law_385 rfl (lv_at hl 2 rfl) ?_
  refine lc_arg C hS (i := i) (k := 1) (kc := (1 : Int32)) (by decide) rfl (by omega) hL (lv_at hl 0 rfl) (lv_at hl 3 rfl) dL_law_386 dL_law_387 dL_law_388 dL_law_389 dL_law_390 ?_
  refine lc_cVi C.1 hPY hDY hPX (zz_aps hap) hS (kX5_hidden l g q' _ uy _ _ ey) gL_law_X5_hidden mX5_hidden (by decide) ⟨(Nat.le_of_ble_eq_true rfl), (Nat.le_of_ble_eq_true rfl)⟩ 0 rfl rfl rfl rfl (rest := [.int r]) rfl hl.1 (Nat.le_of_ble_eq_true rfl) dL_law_391 (fun H locs hPY hDY hPX hap hS => ?_)
  refine lv_icmp_eq (tgt := 1132) hx hb dL_law_394 (by decide) (fun _ => ?_) (fun h => absurd rfl h)
  exact kk H locs ux uy ⟨hPX, hDX, hPY, hDY, zz_aps hap, hS⟩ hR
set_option maxHeartbeats 4000000 in
set_option maxRecDepth 100000 in
theorem lc_census (C : lcC g p s m c b L xs) (hL : L ≤ 448) (hi : i + 7 ≤ L) (hV : lcV g s q q' ux uy H locs) (hR : qR ux uy) (hl : lv_has ls 4 [(0, .ref b), (1, .ref (q 0)), (2, .ref (q' 0)), (3, .int (nI i))]) (kk : ∀ (H : Heap) (locs : List Loc) (ux uy : zzS), lcV g s q q' ux uy H locs → qR ux uy → W p l e room_1 s m #[Value.ref b] below meth c H locs 36 700 Q (F0 m 1132 ls [])) : W p l e room_1 s m #[Value.ref b] below meth c H locs 36 700 Q (F0 m 399 ls []) := by
  obtain ⟨hPX, hDX, hPY, hDY, hap, hS⟩ := hV
  have hx := C.1.1.1
  have hb := C.1.1.2.1
  obtain ⟨r, ux', uy', ex, ey, hR'⟩ := e_census hR (xs (i + 1))
  refine lv_aload_n hx hb dL_law_399 rfl (lv_at hl 1 rfl) ?_
  refine lc_arg C hS (i := i) (k := 1) (kc := (1 : Int32)) (by decide) rfl (by omega) hL (lv_at hl 0 rfl) (lv_at hl 3 rfl) dL_law_400 dL_law_401 dL_law_402 dL_law_403 dL_law_404 ?_
  refine lc_cVi C.1 hPX hDX hPY hap hS (kX4_census l g q _ ux _ _ ex) gL_law_X4_census mX4_census (by decide) ⟨(Nat.le_of_ble_eq_true rfl), (Nat.le_of_ble_eq_true rfl)⟩ 0 rfl rfl rfl rfl (rest := []) rfl hl.1 (Nat.le_of_ble_eq_true rfl) dL_law_405 (fun H locs hPX hDX hPY hap hS => ?_)
  refine lv_aload_n hx hb dL_law_408 rfl (lv_at hl 2 rfl) ?_
  refine lc_arg C hS (i := i) (k := 1) (kc := (1 : Int32)) (by decide) rfl (by omega) hL (lv_at hl 0 rfl) (lv_at hl 3 rfl) dL_law_409 dL_law_410 dL_law_411 dL_law_412 dL_law_413 ?_
  refine lc_cVi C.1 hPY hDY hPX (zz_aps hap) hS (kX5_census l g q' _ uy _ _ ey) gL_law_X5_census mX5_census (by decide) ⟨(Nat.le_of_ble_eq_true rfl), (Nat.le_of_ble_eq_true rfl)⟩ 0 rfl rfl rfl rfl (rest := [.int r]) rfl hl.1 (Nat.le_of_ble_eq_true rfl) dL_law_414 (fun H locs hPY hDY hPX hap hS => ?_)
  refine lv_icmp_eq (tgt := 1132) hx hb dL_law_417 (by decide) (fun _ => ?_) (fun h => absurd rfl h)
  exact kk H locs ux' uy' ⟨hPX, hDX, hPY, hDY, zz_aps hap, hS⟩ hR'
set_option maxHeartbeats 4000000 in
set_option maxRecDepth 100000 in
theorem lc_runs (C : lcC g p s m c b L xs) (hL : L ≤ 448) (hi : i + 7 ≤ L) (hV : lcV g s q q' ux uy H locs) (hR : qR ux uy) (hl : lv_has ls 4 [(0, .ref b), (1, .ref (q 0)), (2, .ref (q' 0)), (3, .int (nI i))]) (kk : ∀ (H : Heap) (locs : List Loc) (ux uy : zzS), lcV g s q q' ux uy H locs → qR ux uy → W p l e room_1 s m #[Value.ref b] below meth c H locs 36 700 Q (F0 m 1132 ls [])) : W p l e room_1 s m #[Value.ref b] below meth c H locs 36 700 Q (F0 m 422 ls []) := by
  obtain ⟨hPX, hDX, hPY, hDY, hap, hS⟩ := hV
  have hx := C.1.1.1
  have hb := C.1.1.2.1
  obtain ⟨r, ux', uy', ex, ey, hR'⟩ := e_runs hR (xs (i + 1)) (xs (i + 2))
  refine lv_aload_n hx hb dL_law_422 rfl (lv_at hl 1 rfl) ?_
  refine lc_arg C hS (i := i) (k := 1) (kc := (1 : Int32)) (by decide) rfl (by omega) hL (lv_at hl 0 rfl) (lv_at hl 3 rfl) dL_law_423 dL_law_424 dL_law_425 dL_law_426 dL_law_427 ?_
  refine lc_arg C hS (i := i) (k := 2) (kc := (2 : Int32)) (by decide) rfl (by omega) hL (lv_at hl 0 rfl) (lv_at hl 3 rfl) dL_law_428 dL_law_429 dL_law_430 dL_law_431 dL_law_432 ?_
  refine lc_cVi C.1 hPX hDX hPY hap hS (kX4_runs l g q _ ux _ _ _ ex) gL_law_X4_runs mX4_runs (by decide) ⟨(Nat.le_of_ble_eq_true rfl), (Nat.le_of_ble_eq_true rfl)⟩ 0 rfl rfl rfl rfl (rest := []) rfl hl.1 (Nat.le_of_ble_eq_true rfl) dL_law_433 (fun H locs hPX hDX hPY hap hS => ?_)
  refine lv_aload_n hx hb dL_law_436 rfl (lv_at hl 2 rfl) ?_
  refine lc_arg C hS (i := i) (k := 1) (kc := (1 : Int32)) (by decide) rfl (by omega) hL (lv_at hl 0 rfl) (lv_at hl 3 rfl) dL_law_437 dL_law_438 dL_law_439 dL_law_440 dL_law_441 ?_
  refine lc_arg C hS (i := i) (k := 2) (kc := (2 : Int32)) (by decide) rfl (by omega) hL (lv_at hl 0 rfl) (lv_at hl 3 rfl) dL_law_442 dL_law_443 dL_law_444 dL_law_445 dL_law_446 ?_
  refine lc_cVi C.1 hPY hDY hPX (zz_aps hap) hS (kX5_runs l g q' _ uy _ _ _ ey) gL_law_X5_runs mX5_runs (by decide) ⟨(Nat.le_of_ble_eq_true rfl), (Nat.le_of_ble_eq_true rfl)⟩ 0 rfl rfl rfl rfl (rest := [.int r]) rfl hl.1 (Nat.le_of_ble_eq_true rfl) dL_law_447 (fun H locs hPY hDY hPX hap hS => ?_)
  refine lv_icmp_eq (tgt := 1132) hx hb dL_law_450 (by decide) (fun _ => ?_) (fun h => absurd rfl h)
  exact kk H locs ux' uy' ⟨hPX, hDX, hPY, hDY, zz_aps hap, hS⟩ hR'
set_option maxHeartbeats 4000000 in
set_option maxRecDepth 100000 in
theorem lc_fair (C : lcC g p s m c b L xs) (hL : L ≤ 448) (hi : i + 7 ≤ L) (hV : lcV g s q q' ux uy H locs) (hR : qR ux uy) (hl : lv_has ls 4 [(0, .ref b), (1, .ref (q 0)), (2, .ref (q' 0)), (3, .int (nI i))]) (kk : ∀ (H : Heap) (locs : List Loc) (ux uy : zzS), lcV g s q q' ux uy H locs → qR ux uy → W p l e room_1 s m #[Value.ref b] below meth c H locs 36 700 Q (F0 m 1132 ls [])) : W p l e room_1 s m #[Value.ref b] below meth c H locs 36 700 Q (F0 m 455 ls []) := by
  obtain ⟨hPX, hDX, hPY, hDY, hap, hS⟩ := hV
  have hx := C.1.1.1
  have hb := C.1.1.2.1
  obtain ⟨r, ux', uy', ex, ey, hR'⟩ := e_fair hR 
  refine lv_aload_n hx hb dL_law_455 rfl (lv_at hl 1 rfl) ?_
  refine lc_cVi C.1 hPX hDX hPY hap hS (kX4_fair l g q _ ux _ ex) gL_law_X4_fair mX4_fair (by decide) ⟨(Nat.le_of_ble_eq_true rfl), (Nat.le_of_ble_eq_true rfl)⟩ 0 rfl rfl rfl rfl (rest := []) rfl hl.1 (Nat.le_of_ble_eq_true rfl) dL_law_456 (fun H locs hPX hDX hPY hap hS => ?_)
  refine lv_aload_n hx hb dL_law_459 rfl (lv_at hl 2 rfl) ?_
  refine lc_cVi C.1 hPY hDY hPX (zz_aps hap) hS (kX5_fair l g q' _ uy _ ey) gL_law_X5_fair mX5_fair (by decide) ⟨(Nat.le_of_ble_eq_true rfl), (Nat.le_of_ble_eq_true rfl)⟩ 0 rfl rfl rfl rfl (rest := [.int r]) rfl hl.1 (Nat.le_of_ble_eq_true rfl) dL_law_460 (fun H locs hPY hDY hPX hap hS => ?_)
  refine lv_icmp_eq (tgt := 1132) hx hb dL_law_463 (by decide) (fun _ => ?_) (fun h => absurd rfl h)
  exact kk H locs ux' uy' ⟨hPX, hDX, hPY, hDY, zz_aps hap, hS⟩ hR'
set_option maxHeartbeats 4000000 in
set_option maxRecDepth 100000 in
theorem lc_walks (C : lcC g p s m c b L xs) (hL : L ≤ 448) (hi : i + 7 ≤ L) (hV : lcV g s q q' ux uy H locs) (hR : qR ux uy) (hl : lv_has ls 4 [(0, .ref b), (1, .ref (q 0)), (2, .ref (q' 0)), (3, .int (nI i))]) (kk : ∀ (H : Heap) (locs : List Loc) (ux uy : zzS), lcV g s q q' ux uy H locs → qR ux uy → W p l e room_1 s m #[Value.ref b] below meth c H locs 36 700 Q (F0 m 1132 ls [])) : W p l e room_1 s m #[Value.ref b] below meth c H locs 36 700 Q (F0 m 468 ls []) := by
  obtain ⟨hPX, hDX, hPY, hDY, hap, hS⟩ := hV
  have hx := C.1.1.1
  have hb := C.1.1.2.1
  obtain ⟨r, ux', uy', ex, ey, hR'⟩ := e_walks hR (xs (i + 1)) (xs (i + 2)) (xs (i + 3)) (xs (i + 4)) (xs (i + 5)) (xs (i + 6))
  refine lv_aload_n hx hb dL_law_468 rfl (lv_at hl 1 rfl) ?_
  refine lc_arg C hS (i := i) (k := 1) (kc := (1 : Int32)) (by decide) rfl (by omega) hL (lv_at hl 0 rfl) (lv_at hl 3 rfl) dL_law_469 dL_law_470 dL_law_471 dL_law_472 dL_law_473 ?_
  refine lc_arg C hS (i := i) (k := 2) (kc := (2 : Int32)) (by decide) rfl (by omega) hL (lv_at hl 0 rfl) (lv_at hl 3 rfl) dL_law_474 dL_law_475 dL_law_476 dL_law_477 dL_law_478 ?_
  refine lc_arg C hS (i := i) (k := 3) (kc := (3 : Int32)) (by decide) rfl (by omega) hL (lv_at hl 0 rfl) (lv_at hl 3 rfl) dL_law_479 dL_law_480 dL_law_481 dL_law_482 dL_law_483 ?_
  refine lc_arg C hS (i := i) (k := 4) (kc := (4 : Int32)) (by decide) rfl (by omega) hL (lv_at hl 0 rfl) (lv_at hl 3 rfl) dL_law_484 dL_law_485 dL_law_486 dL_law_487 dL_law_488 ?_
  refine lc_arg C hS (i := i) (k := 5) (kc := (5 : Int32)) (by decide) rfl (by omega) hL (lv_at hl 0 rfl) (lv_at hl 3 rfl) dL_law_489 dL_law_490 dL_law_491 dL_law_492 dL_law_493 ?_
  refine lc_argb C hS (i := i) (k := 6) (kc := (6 : Int32)) (by decide) rfl (by omega) hL (lv_at hl 0 rfl) (lv_at hl 3 rfl) dL_law_494 dL_law_495 dL_law_496 dL_law_498 dL_law_499 ?_
  refine lc_cVi C.1 hPX hDX hPY hap hS (kX4_walks l g q _ ux _ _ _ _ _ _ _ ex) gL_law_X4_walks mX4_walks (by decide) ⟨(Nat.le_of_ble_eq_true rfl), (Nat.le_of_ble_eq_true rfl)⟩ 0 rfl rfl rfl rfl (rest := []) rfl hl.1 (Nat.le_of_ble_eq_true rfl) dL_law_500 (fun H locs hPX hDX hPY hap hS => ?_)
  refine lv_aload_n hx hb dL_law_503 rfl (lv_at hl 2 rfl) ?_
  refine lc_arg C hS (i := i) (k := 1) (kc := (1 : Int32)) (by decide) rfl (by omega) hL (lv_at hl 0 rfl) (lv_at hl 3 rfl) dL_law_504 dL_law_505 dL_law_506 dL_law_507 dL_law_508 ?_
  refine lc_arg C hS (i := i) (k := 2) (kc := (2 : Int32)) (by decide) rfl (by omega) hL (lv_at hl 0 rfl) (lv_at hl 3 rfl) dL_law_509 dL_law_510 dL_law_511 dL_law_512 dL_law_513 ?_
  refine lc_arg C hS (i := i) (k := 3) (kc := (3 : Int32)) (by decide) rfl (by omega) hL (lv_at hl 0 rfl) (lv_at hl 3 rfl) dL_law_514 dL_law_515 dL_law_516 dL_law_517 dL_law_518 ?_
  refine lc_arg C hS (i := i) (k := 4) (kc := (4 : Int32)) (by decide) rfl (by omega) hL (lv_at hl 0 rfl) (lv_at hl 3 rfl) dL_law_519 dL_law_520 dL_law_521 dL_law_522 dL_law_523 ?_
  refine lc_arg C hS (i := i) (k := 5) (kc := (5 : Int32)) (by decide) rfl (by omega) hL (lv_at hl 0 rfl) (lv_at hl 3 rfl) dL_law_524 dL_law_525 dL_law_526 dL_law_527 dL_law_528 ?_
  refine lc_argb C hS (i := i) (k := 6) (kc := (6 : Int32)) (by decide) rfl (by omega) hL (lv_at hl 0 rfl) (lv_at hl 3 rfl) dL_law_529 dL_law_530 dL_law_531 dL_law_533 dL_law_534 ?_
  refine lc_cVi C.1 hPY hDY hPX (zz_aps hap) hS (kX5_walks l g q' _ uy _ _ _ _ _ _ _ ey) gL_law_X5_walks mX5_walks (by decide) ⟨(Nat.le_of_ble_eq_true rfl), (Nat.le_of_ble_eq_true rfl)⟩ 0 rfl rfl rfl rfl (rest := [.int r]) rfl hl.1 (Nat.le_of_ble_eq_true rfl) dL_law_535 (fun H locs hPY hDY hPX hap hS => ?_)
  refine lv_icmp_eq (tgt := 1132) hx hb dL_law_538 (by decide) (fun _ => ?_) (fun h => absurd rfl h)
  exact kk H locs ux' uy' ⟨hPX, hDX, hPY, hDY, zz_aps hap, hS⟩ hR'
set_option maxHeartbeats 4000000 in
set_option maxRecDepth 100000 in
theorem lc_pair (C : lcC g p s m c b L xs) (hL : L ≤ 448) (hi : i + 7 ≤ L) (hV : lcV g s q q' ux uy H locs) (hR : qR ux uy) (hl : lv_has ls 4 [(0, .ref b), (1, .ref (q 0)), (2, .ref (q' 0)), (3, .int (nI i))]) (kk : ∀ (H : Heap) (locs : List Loc) (ux uy : zzS), lcV g s q q' ux uy H locs → qR ux uy → W p l e room_1 s m #[Value.ref b] below meth c H locs 36 700 Q (F0 m 1132 ls [])) : W p l e room_1 s m #[Value.ref b] below meth c H locs 36 700 Q (F0 m 543 ls []) := by
  obtain ⟨hPX, hDX, hPY, hDY, hap, hS⟩ := hV
  have hx := C.1.1.1
  have hb := C.1.1.2.1
  obtain ⟨r, ux', uy', ex, ey, hR'⟩ := e_pair hR (xs (i + 1)) (xs (i + 2)) (xs (i + 3)) (xs (i + 4))
  refine lv_aload_n hx hb dL_law_543 rfl (lv_at hl 1 rfl) ?_
  refine lc_arg C hS (i := i) (k := 1) (kc := (1 : Int32)) (by decide) rfl (by omega) hL (lv_at hl 0 rfl) (lv_at hl 3 rfl) dL_law_544 dL_law_545 dL_law_546 dL_law_547 dL_law_548 ?_
  refine lc_arg C hS (i := i) (k := 2) (kc := (2 : Int32)) (by decide) rfl (by omega) hL (lv_at hl 0 rfl) (lv_at hl 3 rfl) dL_law_549 dL_law_550 dL_law_551 dL_law_552 dL_law_553 ?_
  refine lc_arg C hS (i := i) (k := 3) (kc := (3 : Int32)) (by decide) rfl (by omega) hL (lv_at hl 0 rfl) (lv_at hl 3 rfl) dL_law_554 dL_law_555 dL_law_556 dL_law_557 dL_law_558 ?_
  refine lc_arg C hS (i := i) (k := 4) (kc := (4 : Int32)) (by decide) rfl (by omega) hL (lv_at hl 0 rfl) (lv_at hl 3 rfl) dL_law_559 dL_law_560 dL_law_561 dL_law_562 dL_law_563 ?_
  refine lc_cVi C.1 hPX hDX hPY hap hS (kX4_pair l g q _ ux _ _ _ _ _ ex) gL_law_X4_pair mX4_pair (by decide) ⟨(Nat.le_of_ble_eq_true rfl), (Nat.le_of_ble_eq_true rfl)⟩ 0 rfl rfl rfl rfl (rest := []) rfl hl.1 (Nat.le_of_ble_eq_true rfl) dL_law_564 (fun H locs hPX hDX hPY hap hS => ?_)
  refine lv_aload_n hx hb dL_law_567 rfl (lv_at hl 2 rfl) ?_
  refine lc_arg C hS (i := i) (k := 1) (kc := (1 : Int32)) (by decide) rfl (by omega) hL (lv_at hl 0 rfl) (lv_at hl 3 rfl) dL_law_568 dL_law_569 dL_law_570 dL_law_571 dL_law_572 ?_
  refine lc_arg C hS (i := i) (k := 2) (kc := (2 : Int32)) (by decide) rfl (by omega) hL (lv_at hl 0 rfl) (lv_at hl 3 rfl) dL_law_573 dL_law_574 dL_law_575 dL_law_576 dL_law_577 ?_
  refine lc_arg C hS (i := i) (k := 3) (kc := (3 : Int32)) (by decide) rfl (by omega) hL (lv_at hl 0 rfl) (lv_at hl 3 rfl) dL_law_578 dL_law_579 dL_law_580 dL_law_581 dL_law_582 ?_
  refine lc_arg C hS (i := i) (k := 4) (kc := (4 : Int32)) (by decide) rfl (by omega) hL (lv_at hl 0 rfl) (lv_at hl 3 rfl) dL_law_583 dL_law_584 dL_law_585 dL_law_586 dL_law_587 ?_
  refine lc_cVi C.1 hPY hDY hPX (zz_aps hap) hS (kX5_pair l g q' _ uy _ _ _ _ _ ey) gL_law_X5_pair mX5_pair (by decide) ⟨(Nat.le_of_ble_eq_true rfl), (Nat.le_of_ble_eq_true rfl)⟩ 0 rfl rfl rfl rfl (rest := [.int r]) rfl hl.1 (Nat.le_of_ble_eq_true rfl) dL_law_588 (fun H locs hPY hDY hPX hap hS => ?_)
  refine lv_icmp_eq (tgt := 1132) hx hb dL_law_591 (by decide) (fun _ => ?_) (fun h => absurd rfl h)
  exact kk H locs ux' uy' ⟨hPX, hDX, hPY, hDY, zz_aps hap, hS⟩ hR'
set_option maxHeartbeats 4000000 in
set_option maxRecDepth 100000 in
theorem lc_send (C : lcC g p s m c b L xs) (hL : L ≤ 448) (hi : i + 7 ≤ L) (hV : lcV g s q q' ux uy H locs) (hR : qR ux uy) (hl : lv_has ls 4 [(0, .ref b), (1, .ref (q 0)), (2, .ref (q' 0)), (3, .int (nI i))]) (kk : ∀ (H : Heap) (locs : List Loc) (ux uy : zzS), lcV g s q q' ux uy H locs → qR ux uy → W p l e room_1 s m #[Value.ref b] below meth c H locs 36 700 Q (F0 m 1132 ls [])) : W p l e room_1 s m #[Value.ref b] below meth c H locs 36 700 Q (F0 m 596 ls []) := by
  obtain ⟨hPX, hDX, hPY, hDY, hap, hS⟩ := hV
  have hx := C.1.1.1
  have hb := C.1.1.2.1
  obtain ⟨r, ux', uy', ex, ey, hR'⟩ := e_send hR (xs (i + 1)) (xs (i + 2))
  refine lv_aload_n hx hb dL_law_596 rfl (lv_at hl 1 rfl) ?_
  refine lc_arg C hS (i := i) (k := 1) (kc := (1 : Int32)) (by decide) rfl (by omega) hL (lv_at hl 0 rfl) (lv_at hl 3 rfl) dL_law_597 dL_law_598 dL_law_599 dL_law_600 dL_law_601 ?_
  refine lc_arg C hS (i := i) (k := 2) (kc := (2 : Int32)) (by decide) rfl (by omega) hL (lv_at hl 0 rfl) (lv_at hl 3 rfl) dL_law_602 dL_law_603 dL_law_604 dL_law_605 dL_law_606 ?_
  refine lc_cVi C.1 hPX hDX hPY hap hS (kX4_send l g q _ ux _ _ _ ex) gL_law_X4_send mX4_send (by decide) ⟨(Nat.le_of_ble_eq_true rfl), (Nat.le_of_ble_eq_true rfl)⟩ 0 rfl rfl rfl rfl (rest := []) rfl hl.1 (Nat.le_of_ble_eq_true rfl) dL_law_607 (fun H locs hPX hDX hPY hap hS => ?_)
  refine lv_aload_n hx hb dL_law_610 rfl (lv_at hl 2 rfl) ?_
  refine lc_arg C hS (i := i) (k := 1) (kc := (1 : Int32)) (by decide) rfl (by omega) hL (lv_at hl 0 rfl) (lv_at hl 3 rfl) dL_law_611 dL_law_612 dL_law_613 dL_law_614 dL_law_615 ?_
  refine lc_arg C hS (i := i) (k := 2) (kc := (2 : Int32)) (by decide) rfl (by omega) hL (lv_at hl 0 rfl) (lv_at hl 3 rfl) dL_law_616 dL_law_617 dL_law_618 dL_law_619 dL_law_620 ?_
  refine lc_cVi C.1 hPY hDY hPX (zz_aps hap) hS (kX5_send l g q' _ uy _ _ _ ey) gL_law_X5_send mX5_send (by decide) ⟨(Nat.le_of_ble_eq_true rfl), (Nat.le_of_ble_eq_true rfl)⟩ 0 rfl rfl rfl rfl (rest := [.int r]) rfl hl.1 (Nat.le_of_ble_eq_true rfl) dL_law_621 (fun H locs hPY hDY hPX hap hS => ?_)
  refine lv_icmp_eq (tgt := 1132) hx hb dL_law_624 (by decide) (fun _ => ?_) (fun h => absurd rfl h)
  exact kk H locs ux' uy' ⟨hPX, hDX, hPY, hDY, zz_aps hap, hS⟩ hR'
set_option maxHeartbeats 4000000 in
set_option maxRecDepth 100000 in
theorem lc_reading (C : lcC g p s m c b L xs) (hL : L ≤ 448) (hi : i + 7 ≤ L) (hV : lcV g s q q' ux uy H locs) (hR : qR ux uy) (hl : lv_has ls 4 [(0, .ref b), (1, .ref (q 0)), (2, .ref (q' 0)), (3, .int (nI i))]) (kk : ∀ (H : Heap) (locs : List Loc) (ux uy : zzS), lcV g s q q' ux uy H locs → qR ux uy → W p l e room_1 s m #[Value.ref b] below meth c H locs 36 700 Q (F0 m 1132 ls [])) : W p l e room_1 s m #[Value.ref b] below meth c H locs 36 700 Q (F0 m 629 ls []) := by
  obtain ⟨hPX, hDX, hPY, hDY, hap, hS⟩ := hV
  have hx := C.1.1.1
  have hb := C.1.1.2.1
  obtain ⟨r, ux', uy', ex, ey, hR'⟩ := e_reading hR (xs (i + 1)) (xs (i + 2))
  refine lv_aload_n hx hb dL_law_629 rfl (lv_at hl 1 rfl) ?_
  refine lc_arg C hS (i := i) (k := 1) (kc := (1 : Int32)) (by decide) rfl (by omega) hL (lv_at hl 0 rfl) (lv_at hl 3 rfl) dL_law_630 dL_law_631 dL_law_632 dL_law_633 dL_law_634 ?_
  refine lc_arg C hS (i := i) (k := 2) (kc := (2 : Int32)) (by decide) rfl (by omega) hL (lv_at hl 0 rfl) (lv_at hl 3 rfl) dL_law_635 dL_law_636 dL_law_637 dL_law_638 dL_law_639 ?_
  refine lc_cVi C.1 hPX hDX hPY hap hS (kX4_reading l g q _ ux _ _ _ ex) gL_law_X4_reading mX4_reading (by decide) ⟨(Nat.le_of_ble_eq_true rfl), (Nat.le_of_ble_eq_true rfl)⟩ 0 rfl rfl rfl rfl (rest := []) rfl hl.1 (Nat.le_of_ble_eq_true rfl) dL_law_640 (fun H locs hPX hDX hPY hap hS => ?_)
  refine lv_aload_n hx hb dL_law_643 rfl (lv_at hl 2 rfl) ?_
  refine lc_arg C hS (i := i) (k := 1) (kc := (1 : Int32)) (by decide) rfl (by omega) hL (lv_at hl 0 rfl) (lv_at hl 3 rfl) dL_law_644 dL_law_645 dL_law_646 dL_law_647 dL_law_648 ?_
  refine lc_arg C hS (i := i) (k := 2) (kc := (2 : Int32)) (by decide) rfl (by omega) hL (lv_at hl 0 rfl) (lv_at hl 3 rfl) dL_law_649 dL_law_650 dL_law_651 dL_law_652 dL_law_653 ?_
  refine lc_cVi C.1 hPY hDY hPX (zz_aps hap) hS (kX5_reading l g q' _ uy _ _ _ ey) gL_law_X5_reading mX5_reading (by decide) ⟨(Nat.le_of_ble_eq_true rfl), (Nat.le_of_ble_eq_true rfl)⟩ 0 rfl rfl rfl rfl (rest := [.int r]) rfl hl.1 (Nat.le_of_ble_eq_true rfl) dL_law_654 (fun H locs hPY hDY hPX hap hS => ?_)
  refine lv_icmp_eq (tgt := 1132) hx hb dL_law_657 (by decide) (fun _ => ?_) (fun h => absurd rfl h)
  exact kk H locs ux' uy' ⟨hPX, hDX, hPY, hDY, zz_aps hap, hS⟩ hR'
set_option maxHeartbeats 4000000 in
set_option maxRecDepth 100000 in
theorem lc_back (C : lcC g p s m c b L xs) (hL : L ≤ 448) (hi : i + 7 ≤ L) (hV : lcV g s q q' ux uy H locs) (hR : qR ux uy) (hl : lv_has ls 4 [(0, .ref b), (1, .ref (q 0)), (2, .ref (q' 0)), (3, .int (nI i))]) (kk : ∀ (H : Heap) (locs : List Loc) (ux uy : zzS), lcV g s q q' ux uy H locs → qR ux uy → W p l e room_1 s m #[Value.ref b] below meth c H locs 36 700 Q (F0 m 1132 ls [])) : W p l e room_1 s m #[Value.ref b] below meth c H locs 36 700 Q (F0 m 662 ls []) := by
  obtain ⟨hPX, hDX, hPY, hDY, hap, hS⟩ := hV
  have hx := C.1.1.1
  have hb := C.1.1.2.1
  obtain ⟨r, ux', uy', ex, ey, hR'⟩ := e_back hR (xs (i + 1))
  refine lv_aload_n hx hb dL_law_662 rfl (lv_at hl 1 rfl) ?_
  refine lc_arg C hS (i := i) (k := 1) (kc := (1 : Int32)) (by decide) rfl (by omega) hL (lv_at hl 0 rfl) (lv_at hl 3 rfl) dL_law_663 dL_law_664 dL_law_665 dL_law_666 dL_law_667 ?_
  refine lc_cVi C.1 hPX hDX hPY hap hS (kX4_back l g q _ ux _ _ ex) gL_law_X4_back mX4_back (by decide) ⟨(Nat.le_of_ble_eq_true rfl), (Nat.le_of_ble_eq_true rfl)⟩ 0 rfl rfl rfl rfl (rest := []) rfl hl.1 (Nat.le_of_ble_eq_true rfl) dL_law_668 (fun H locs hPX hDX hPY hap hS => ?_)
  refine lv_aload_n hx hb dL_law_671 rfl (lv_at hl 2 rfl) ?_
  refine lc_arg C hS (i := i) (k := 1) (kc := (1 : Int32)) (by decide) rfl (by omega) hL (lv_at hl 0 rfl) (lv_at hl 3 rfl) dL_law_672 dL_law_673 dL_law_674 dL_law_675 dL_law_676 ?_
  refine lc_cVi C.1 hPY hDY hPX (zz_aps hap) hS (kX5_back l g q' _ uy _ _ ey) gL_law_X5_back mX5_back (by decide) ⟨(Nat.le_of_ble_eq_true rfl), (Nat.le_of_ble_eq_true rfl)⟩ 0 rfl rfl rfl rfl (rest := [.int r]) rfl hl.1 (Nat.le_of_ble_eq_true rfl) dL_law_677 (fun H locs hPY hDY hPX hap hS => ?_)
  refine lv_icmp_eq (tgt := 1132) hx hb dL_law_680 (by decide) (fun _ => ?_) (fun h => absurd rfl h)
  exact kk H locs ux' uy' ⟨hPX, hDX, hPY, hDY, zz_aps hap, hS⟩ hR'
end LcCase
