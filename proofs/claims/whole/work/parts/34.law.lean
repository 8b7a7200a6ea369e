def b_L_law_208 (S : SH) (L : Nat) (xs : Nat → Int32) (k18 : (Int32 × Mem) → Option (Int32 × Mem)) (a1 : Nat) (a2 : Nat) (a3 : Int32) (μ : Mem) : Option (Int32 × Mem) :=
 (xI L xs (a3 + 1)).bind fun v3 =>
 (xI L xs (a3 + 2)).bind fun v4 =>
 (xI L xs (a3 + 3)).bind fun v5 =>
 (xI L xs (a3 + 4)).bind fun v6 =>
 (f_X11_pad S a1 v3 v4 v5 v6 μ).bind fun q7 =>
 (xI L xs (a3 + 1)).bind fun v8 =>
 (xI L xs (a3 + 2)).bind fun v9 =>
 (xI L xs (a3 + 3)).bind fun v10 =>
 (xI L xs (a3 + 4)).bind fun v11 =>
 (f_X12_pad S a2 v8 v9 v10 v11 q7.2).bind fun q12 =>
 (if q7.1 = q12.1 then
 k18 (a3 + 5, q12.2)
 else
 some (0, q12.2))
set_option maxRecDepth 100000 in
set_option maxHeartbeats 4000000 in
theorem s_L_law_208 {γ : GE} {p : Program} {l : Launch} {e : Env} {s : State} {m : MethodId} {below : List Frame} {meth : Method} {c : Code} {S : SH} {X : (Int32 × Mem)} {b L : Nat} {xs : Nat → Int32} (F : FX γ p s m #[Value.ref b] meth c cL_law RL 4) (hr : LWX γ s meth b L xs X) (a1 : Nat) (a2 : Nat) (a3 : Int32)  (k18 : (Int32 × Mem) → Option (Int32 × Mem)) (hk18 : ∀ (x18_3 : Int32) (ν : Mem), k18 (x18_3, ν) = some X → JJ γ p l e room_1 s m #[Value.ref b] below meth c 4 108 4635 (lw_Z below #[Value.ref b] s) S ν 18 [(0, .ref b), (1, .ref (gb γ + a1)), (2, .ref (gb γ + a2)), (3, .int x18_3)] [])  (μ : Mem) (h : b_L_law_208 S L xs k18 a1 a2 a3 μ = some X) : JJ γ p l e room_1 s m #[Value.ref b] below meth c 4 108 4635 (lw_Z below #[Value.ref b] s) S μ 208 [(0, .ref b), (1, .ref (gb γ + a1)), (2, .ref (gb γ + a2)), (3, .int a3)] [] := by
  unfold b_L_law_208 at h
  refine j_aload_n F 1 dL_law_208 rfl ?_
  refine j_aload_n F 0 dL_law_209 rfl ?_
  refine j_iload_n F 3 dL_law_210 rfl ?_
  refine j_iconst F 1 dL_law_211 (by decide) ?_
  refine j_iadd F dL_law_212 ?_
  refine j_xld F hr.1 dL_law_213 h (fun v3 h => ?_)
  refine j_aload_n F 0 dL_law_214 rfl ?_
  refine j_iload_n F 3 dL_law_215 rfl ?_
  refine j_iconst F 2 dL_law_216 (by decide) ?_
  refine j_iadd F dL_law_217 ?_
  refine j_xld F hr.1 dL_law_218 h (fun v4 h => ?_)
  refine j_aload_n F 0 dL_law_219 rfl ?_
  refine j_iload_n F 3 dL_law_220 rfl ?_
  refine j_iconst F 3 dL_law_221 (by decide) ?_
  refine j_iadd F dL_law_222 ?_
  refine j_xld F hr.1 dL_law_223 h (fun v5 h => ?_)
  refine j_aload_n F 0 dL_law_224 rfl ?_
  refine j_iload_n F 3 dL_law_225 rfl ?_
  refine j_iconst F 4 dL_law_226 (by decide) ?_
  refine j_iadd F dL_law_227 ?_
  refine j_xld F hr.1 dL_law_228 h (fun v6 h => ?_)
  refine j_cVI F mi_X11_pad w_457 (rest := []) h (fun _ g => c_X11_pad g) rfl rfl (Nat.le_of_ble_eq_true rfl) ⟨Nat.le_of_ble_eq_true rfl, Nat.le_of_ble_eq_true rfl⟩ ⟨Nat.le_of_ble_eq_true rfl, Nat.le_of_ble_eq_true rfl⟩ dL_law_229 (fun q7 h => ?_)
  refine j_aload_n F 2 dL_law_232 rfl ?_
  refine j_aload_n F 0 dL_law_233 rfl ?_
  refine j_iload_n F 3 dL_law_234 rfl ?_
  refine j_iconst F 1 dL_law_235 (by decide) ?_
  refine j_iadd F dL_law_236 ?_
  refine j_xld F hr.1 dL_law_237 h (fun v8 h => ?_)
  refine j_aload_n F 0 dL_law_238 rfl ?_
  refine j_iload_n F 3 dL_law_239 rfl ?_
  refine j_iconst F 2 dL_law_240 (by decide) ?_
  refine j_iadd F dL_law_241 ?_
  refine j_xld F hr.1 dL_law_242 h (fun v9 h => ?_)
  refine j_aload_n F 0 dL_law_243 rfl ?_
  refine j_iload_n F 3 dL_law_244 rfl ?_
  refine j_iconst F 3 dL_law_245 (by decide) ?_
  refine j_iadd F dL_law_246 ?_
  refine j_xld F hr.1 dL_law_247 h (fun v10 h => ?_)
  refine j_aload_n F 0 dL_law_248 rfl ?_
  refine j_iload_n F 3 dL_law_249 rfl ?_
  refine j_iconst F 4 dL_law_250 (by decide) ?_
  refine j_iadd F dL_law_251 ?_
  refine j_xld F hr.1 dL_law_252 h (fun v11 h => ?_)
  refine j_cVI F mi_X12_pad w_1097 (rest := [.int q7.1]) h (fun _ g => c_X12_pad g) rfl rfl (Nat.le_of_ble_eq_true rfl) ⟨Nat.le_of_ble_eq_true rfl, Nat.le_of_ble_eq_true rfl⟩ ⟨Nat.le_of_ble_eq_true rfl, Nat.le_of_ble_eq_true rfl⟩ dL_law_253 (fun q12 h => ?_)
  refine j_icmpeq F 1311 dL_law_256 (by decide) h (fun _ h => ?_) (fun _ h => ?_)
  · refine j_iinc F 5 3 [(3, .int (a3 + 5)), (0, .ref b), (1, .ref (gb γ + a1)), (2, .ref (gb γ + a2))] dL_law_1311 rfl (by decide) (by decide) rfl ?_
    refine j_goto F 18 dL_law_1314 (by decide) ?_
    refine j_lv [(0, .ref b), (1, .ref (gb γ + a1)), (2, .ref (gb γ + a2)), (3, .int (a3 + 5))] [1, 2, 3, 0] rfl ?_
    exact hk18 _ _ h
  · refine j_iconst F 0 dL_law_259 (by decide) ?_
    exact (law_no h hr.2.1).elim
def b_L_law_290 (S : SH) (L : Nat) (xs : Nat → Int32) (k18 : (Int32 × Mem) → Option (Int32 × Mem)) (a1 : Nat) (a2 : Nat) (a3 : Int32) (t0 : Int32) (t1 : Int32) (t2 : Int32) (t3 : Int32) (t4 : Nat) (μ : Mem) : Option (Int32 × Mem) :=
 (f_X11_part S t4 t3 t2 t1 t0 μ).bind fun q17 =>
 (xI L xs (a3 + 1)).bind fun v18 =>
 (xI L xs (a3 + 2)).bind fun v19 =>
 (xI L xs (a3 + 3)).bind fun v20 =>
 (xI L xs (a3 + 4)).bind fun v21 =>
 (if v21 = 0 then
 (f_X12_part_ S a2 v18 v19 v20 0 q17.2).bind fun q22 =>
 (if q17.1 = q22.1 then
 k18 (a3 + 5, q22.2)
 else
 some (0, q22.2))
 else
 (f_X12_part_ S a2 v18 v19 v20 1 q17.2).bind fun q23 =>
 (if q17.1 = q23.1 then
 k18 (a3 + 5, q23.2)
 else
 some (0, q23.2)))
set_option maxRecDepth 100000 in
set_option maxHeartbeats 4000000 in
theorem s_L_law_290 {γ : GE} {p : Program} {l : Launch} {e : Env} {s : State} {m : MethodId} {below : List Frame} {meth : Method} {c : Code} {S : SH} {X : (Int32 × Mem)} {b L : Nat} {xs : Nat → Int32} (F : FX γ p s m #[Value.ref b] meth c cL_law RL 4) (hr : LWX γ s meth b L xs X) (a1 : Nat) (a2 : Nat) (a3 : Int32)  (k18 : (Int32 × Mem) → Option (Int32 × Mem)) (hk18 : ∀ (x18_3 : Int32) (ν : Mem), k18 (x18_3, ν) = some X → JJ γ p l e room_1 s m #[Value.ref b] below meth c 4 108 4635 (lw_Z below #[Value.ref b] s) S ν 18 [(0, .ref b), (1, .ref (gb γ + a1)), (2, .ref (gb γ + a2)), (3, .int x18_3)] []) (t0 : Int32) (t1 : Int32) (t2 : Int32) (t3 : Int32) (t4 : Nat) (μ : Mem) (h : b_L_law_290 S L xs k18 a1 a2 a3 t0 t1 t2 t3 t4 μ = some X) : JJ γ p l e room_1 s m #[Value.ref b] below meth c 4 108 4635 (lw_Z below #[Value.ref b] s) S μ 290 [(0, .ref b), (1, .ref (gb γ + a1)), (2, .ref (gb γ + a2)), (3, .int a3)] [.int t0, .int t1, .int t2, .int t3, .ref (gb γ + t4)] := by
  unfold b_L_law_290 at h
  refine j_cVI F mi_X11_part w_471 (rest := []) h (fun _ g => c_X11_part g) rfl rfl (Nat.le_of_ble_eq_true rfl) ⟨Nat.le_of_ble_eq_true rfl, Nat.le_of_ble_eq_true rfl⟩ ⟨Nat.le_of_ble_eq_true rfl, Nat.le_of_ble_eq_true rfl⟩ dL_law_290 (fun q17 h => ?_)
  refine j_aload_n F 2 dL_law_293 rfl ?_
  refine j_aload_n F 0 dL_law_294 rfl ?_
  refine j_iload_n F 3 dL_law_295 rfl ?_
  refine j_iconst F 1 dL_law_296 (by decide) ?_
  refine j_iadd F dL_law_297 ?_
  refine j_xld F hr.1 dL_law_298 h (fun v18 h => ?_)
  refine j_aload_n F 0 dL_law_299 rfl ?_
  refine j_iload_n F 3 dL_law_300 rfl ?_
  refine j_iconst F 2 dL_law_301 (by decide) ?_
  refine j_iadd F dL_law_302 ?_
  refine j_xld F hr.1 dL_law_303 h (fun v19 h => ?_)
  refine j_aload_n F 0 dL_law_304 rfl ?_
  refine j_iload_n F 3 dL_law_305 rfl ?_
  refine j_iconst F 3 dL_law_306 (by decide) ?_
  refine j_iadd F dL_law_307 ?_
  refine j_xld F hr.1 dL_law_308 h (fun v20 h => ?_)
  refine j_aload_n F 0 dL_law_309 rfl ?_
  refine j_iload_n F 3 dL_law_310 rfl ?_
  refine j_iconst F 4 dL_law_311 (by decide) ?_
  refine j_iadd F dL_law_312 ?_
  refine j_xld F hr.1 dL_law_313 h (fun v21 h => ?_)
  refine j_ifeq F 321 dL_law_314 (by decide) h (fun _ h => ?_) (fun _ h => ?_)
  · refine j_iconst F 0 dL_law_321 (by decide) ?_
    refine j_cVI F mi_X12_part_ w_1119 (rest := [.int q17.1]) h (fun _ g => c_X12_part_ g) rfl rfl (Nat.le_of_ble_eq_true rfl) ⟨Nat.le_of_ble_eq_true rfl, Nat.le_of_ble_eq_true rfl⟩ ⟨Nat.le_of_ble_eq_true rfl, Nat.le_of_ble_eq_true rfl⟩ dL_law_322 (fun q22 h => ?_)
    refine j_icmpeq F 1311 dL_law_325 (by decide) h (fun _ h => ?_) (fun _ h => ?_)
    · refine j_iinc F 5 3 [(3, .int (a3 + 5)), (0, .ref b), (1, .ref (gb γ + a1)), (2, .ref (gb γ + a2))] dL_law_1311 rfl (by decide) (by decide) rfl ?_
      refine j_goto F 18 dL_law_1314 (by decide) ?_
      refine j_lv [(0, .ref b), (1, .ref (gb γ + a1)), (2, .ref (gb γ + a2)), (3, .int (a3 + 5))] [1, 2, 3, 0] rfl ?_
      exact hk18 _ _ h
    · refine j_iconst F 0 dL_law_328 (by decide) ?_
      exact (law_no h hr.2.1).elim
  · refine j_iconst F 1 dL_law_317 (by decide) ?_
    refine j_goto F 322 dL_law_318 (by decide) ?_
    refine j_cVI F mi_X12_part_ w_1119 (rest := [.int q17.1]) h (fun _ g => c_X12_part_ g) rfl rfl (Nat.le_of_ble_eq_true rfl) ⟨Nat.le_of_ble_eq_true rfl, Nat.le_of_ble_eq_true rfl⟩ ⟨Nat.le_of_ble_eq_true rfl, Nat.le_of_ble_eq_true rfl⟩ dL_law_322 (fun q23 h => ?_)
    refine j_icmpeq F 1311 dL_law_325 (by decide) h (fun _ h => ?_) (fun _ h => ?_)
    · refine j_iinc F 5 3 [(3, .int (a3 + 5)), (0, .ref b), (1, .ref (gb γ + a1)), (2, .ref (gb γ + a2))] dL_law_1311 rfl (by decide) (by decide) rfl ?_
      refine j_goto F 18 dL_law_1314 (by decide) ?_
      refine j_lv [(0, .ref b), (1, .ref (gb γ + a1)), (2, .ref (gb γ + a2)), (3, .int (a3 + 5))] [1, 2, 3, 0] rfl ?_
      exact hk18 _ _ h
    · refine j_iconst F 0 dL_law_328 (by decide) ?_
      exact (law_no h hr.2.1).elim
def b_L_law_261 (S : SH) (L : Nat) (xs : Nat → Int32) (k18 : (Int32 × Mem) → Option (Int32 × Mem)) (a1 : Nat) (a2 : Nat) (a3 : Int32) (μ : Mem) : Option (Int32 × Mem) :=
 (xI L xs (a3 + 1)).bind fun v13 =>
 (xI L xs (a3 + 2)).bind fun v14 =>
 (xI L xs (a3 + 3)).bind fun v15 =>
 (xI L xs (a3 + 4)).bind fun v16 =>
 (if v16 = 0 then
 b_L_law_290 S L xs k18 a1 a2 a3 0 v15 v14 v13 a1 μ
 else
 b_L_law_290 S L xs k18 a1 a2 a3 1 v15 v14 v13 a1 μ)
set_option maxRecDepth 100000 in
set_option maxHeartbeats 4000000 in
theorem s_L_law_261 {γ : GE} {p : Program} {l : Launch} {e : Env} {s : State} {m : MethodId} {below : List Frame} {meth : Method} {c : Code} {S : SH} {X : (Int32 × Mem)} {b L : Nat} {xs : Nat → Int32} (F : FX γ p s m #[Value.ref b] meth c cL_law RL 4) (hr : LWX γ s meth b L xs X) (a1 : Nat) (a2 : Nat) (a3 : Int32)  (k18 : (Int32 × Mem) → Option (Int32 × Mem)) (hk18 : ∀ (x18_3 : Int32) (ν : Mem), k18 (x18_3, ν) = some X → JJ γ p l e room_1 s m #[Value.ref b] below meth c 4 108 4635 (lw_Z below #[Value.ref b] s) S ν 18 [(0, .ref b), (1, .ref (gb γ + a1)), (2, .ref (gb γ + a2)), (3, .int x18_3)] [])  (μ : Mem) (h : b_L_law_261 S L xs k18 a1 a2 a3 μ = some X) : JJ γ p l e room_1 s m #[Value.ref b] below meth c 4 108 4635 (lw_Z below #[Value.ref b] s) S μ 261 [(0, .ref b), (1, .ref (gb γ + a1)), (2, .ref (gb γ + a2)), (3, .int a3)] [] := by
  unfold b_L_law_261 at h
  refine j_aload_n F 1 dL_law_261 rfl ?_
  refine j_aload_n F 0 dL_law_262 rfl ?_
  refine j_iload_n F 3 dL_law_263 rfl ?_
  refine j_iconst F 1 dL_law_264 (by decide) ?_
  refine j_iadd F dL_law_265 ?_
  refine j_xld F hr.1 dL_law_266 h (fun v13 h => ?_)
  refine j_aload_n F 0 dL_law_267 rfl ?_
  refine j_iload_n F 3 dL_law_268 rfl ?_
  refine j_iconst F 2 dL_law_269 (by decide) ?_
  refine j_iadd F dL_law_270 ?_
  refine j_xld F hr.1 dL_law_271 h (fun v14 h => ?_)
  refine j_aload_n F 0 dL_law_272 rfl ?_
  refine j_iload_n F 3 dL_law_273 rfl ?_
  refine j_iconst F 3 dL_law_274 (by decide) ?_
  refine j_iadd F dL_law_275 ?_
  refine j_xld F hr.1 dL_law_276 h (fun v15 h => ?_)
  refine j_aload_n F 0 dL_law_277 rfl ?_
  refine j_iload_n F 3 dL_law_278 rfl ?_
  refine j_iconst F 4 dL_law_279 (by decide) ?_
  refine j_iadd F dL_law_280 ?_
  refine j_xld F hr.1 dL_law_281 h (fun v16 h => ?_)
  refine j_ifeq F 289 dL_law_282 (by decide) h (fun _ h => ?_) (fun _ h => ?_)
  · refine j_iconst F 0 dL_law_289 (by decide) ?_
    exact s_L_law_290 F hr _ _ _ _ hk18 _ _ _ _ _ _ h
  · refine j_iconst F 1 dL_law_285 (by decide) ?_
    refine j_goto F 290 dL_law_286 (by decide) ?_
    exact s_L_law_290 F hr _ _ _ _ hk18 _ _ _ _ _ _ h
def b_L_law_330 (S : SH) (L : Nat) (xs : Nat → Int32) (k18 : (Int32 × Mem) → Option (Int32 × Mem)) (a1 : Nat) (a2 : Nat) (a3 : Int32) (μ : Mem) : Option (Int32 × Mem) :=
 (xI L xs (a3 + 1)).bind fun v24 =>
 (xI L xs (a3 + 2)).bind fun v25 =>
 (f_X11_mass S a1 v24 v25 μ).bind fun q26 =>
 (xI L xs (a3 + 1)).bind fun v27 =>
 (xI L xs (a3 + 2)).bind fun v28 =>
 (f_X12_mass S a2 v27 v28 q26.2).bind fun q29 =>
 (if q26.1 = q29.1 then
 k18 (a3 + 5, q29.2)
 else
 some (0, q29.2))
set_option maxRecDepth 100000 in
set_option maxHeartbeats 4000000 in
theorem s_L_law_330 {γ : GE} {p : Program} {l : Launch} {e : Env} {s : State} {m : MethodId} {below : List Frame} {meth : Method} {c : Code} {S : SH} {X : (Int32 × Mem)} {b L : Nat} {xs : Nat → Int32} (F : FX γ p s m #[Value.ref b] meth c cL_law RL 4) (hr : LWX γ s meth b L xs X) (a1 : Nat) (a2 : Nat) (a3 : Int32)  (k18 : (Int32 × Mem) → Option (Int32 × Mem)) (hk18 : ∀ (x18_3 : Int32) (ν : Mem), k18 (x18_3, ν) = some X → JJ γ p l e room_1 s m #[Value.ref b] below meth c 4 108 4635 (lw_Z below #[Value.ref b] s) S ν 18 [(0, .ref b), (1, .ref (gb γ + a1)), (2, .ref (gb γ + a2)), (3, .int x18_3)] [])  (μ : Mem) (h : b_L_law_330 S L xs k18 a1 a2 a3 μ = some X) : JJ γ p l e room_1 s m #[Value.ref b] below meth c 4 108 4635 (lw_Z below #[Value.ref b] s) S μ 330 [(0, .ref b), (1, .ref (gb γ + a1)), (2, .ref (gb γ + a2)), (3, .int a3)] [] := by
  unfold b_L_law_330 at h
  refine j_aload_n F 1 dL_law_330 rfl ?_
  refine j_aload_n F 0 dL_law_331 rfl ?_
  refine j_iload_n F 3 dL_law_332 rfl ?_
  refine j_iconst F 1 dL_law_333 (by decide) ?_
  refine j_iadd F dL_law_334 ?_
  refine j_xld F hr.1 dL_law_335 h (fun v24 h => ?_)
  refine j_aload_n F 0 dL_law_336 rfl ?_
  refine j_iload_n F 3 dL_law_337 rfl ?_
  refine j_iconst F 2 dL_law_338 (by decide) ?_
  refine j_iadd F dL_law_339 ?_
  refine j_xld F hr.1 dL_law_340 h (fun v25 h => ?_)
  refine j_cVI F mi_X11_mass w_486 (rest := []) h (fun _ g => c_X11_mass g) rfl rfl (Nat.le_of_ble_eq_true rfl) ⟨Nat.le_of_ble_eq_true rfl, Nat.le_of_ble_eq_true rfl⟩ ⟨Nat.le_of_ble_eq_true rfl, Nat.le_of_ble_eq_true rfl⟩ dL_law_341 (fun q26 h => ?_)
  refine j_aload_n F 2 dL_law_344 rfl ?_
  refine j_aload_n F 0 dL_law_345 rfl ?_
  refine j_iload_n F 3 dL_law_346 rfl ?_
  refine j_iconst F 1 dL_law_347 (by decide) ?_
  refine j_iadd F dL_law_348 ?_
  refine j_xld F hr.1 dL_law_349 h (fun v27 h => ?_)
  refine j_aload_n F 0 dL_law_350 rfl ?_
  refine j_iload_n F 3 dL_law_351 rfl ?_
  refine j_iconst F 2 dL_law_352 (by decide) ?_
  refine j_iadd F dL_law_353 ?_
  refine j_xld F hr.1 dL_law_354 h (fun v28 h => ?_)
  refine j_cVI F mi_X12_mass w_1123 (rest := [.int q26.1]) h (fun _ g => c_X12_mass g) rfl rfl (Nat.le_of_ble_eq_true rfl) ⟨Nat.le_of_ble_eq_true rfl, Nat.le_of_ble_eq_true rfl⟩ ⟨Nat.le_of_ble_eq_true rfl, Nat.le_of_ble_eq_true rfl⟩ dL_law_355 (fun q29 h => ?_)
  refine j_icmpeq F 1311 dL_law_358 (by decide) h (fun _ h => ?_) (fun _ h => ?_)
  · refine j_iinc F 5 3 [(3, .int (a3 + 5)), (0, .ref b), (1, .ref (gb γ + a1)), (2, .ref (gb γ + a2))] dL_law_1311 rfl (by decide) (by decide) rfl ?_
    refine j_goto F 18 dL_law_1314 (by decide) ?_
    refine j_lv [(0, .ref b), (1, .ref (gb γ + a1)), (2, .ref (gb γ + a2)), (3, .int (a3 + 5))] [1, 2, 3, 0] rfl ?_
    exact hk18 _ _ h
  · refine j_iconst F 0 dL_law_361 (by decide) ?_
    exact (law_no h hr.2.1).elim
def b_L_law_363 (S : SH) (L : Nat) (xs : Nat → Int32) (k18 : (Int32 × Mem) → Option (Int32 × Mem)) (a1 : Nat) (a2 : Nat) (a3 : Int32) (μ : Mem) : Option (Int32 × Mem) :=
 (xI L xs (a3 + 1)).bind fun v30 =>
 (xI L xs (a3 + 2)).bind fun v31 =>
 (f_X11_put S a1 v30 v31 μ).bind fun q32 =>
 (xI L xs (a3 + 1)).bind fun v33 =>
 (xI L xs (a3 + 2)).bind fun v34 =>
 (f_X12_put S a2 v33 v34 q32.2).bind fun q35 =>
 (if q32.1 = q35.1 then
 k18 (a3 + 5, q35.2)
 else
 some (0, q35.2))
set_option maxRecDepth 100000 in
set_option maxHeartbeats 4000000 in
theorem s_L_law_363 {γ : GE} {p : Program} {l : Launch} {e : Env} {s : State} {m : MethodId} {below : List Frame} {meth : Method} {c : Code} {S : SH} {X : (Int32 × Mem)} {b L : Nat} {xs : Nat → Int32} (F : FX γ p s m #[Value.ref b] meth c cL_law RL 4) (hr : LWX γ s meth b L xs X) (a1 : Nat) (a2 : Nat) (a3 : Int32)  (k18 : (Int32 × Mem) → Option (Int32 × Mem)) (hk18 : ∀ (x18_3 : Int32) (ν : Mem), k18 (x18_3, ν) = some X → JJ γ p l e room_1 s m #[Value.ref b] below meth c 4 108 4635 (lw_Z below #[Value.ref b] s) S ν 18 [(0, .ref b), (1, .ref (gb γ + a1)), (2, .ref (gb γ + a2)), (3, .int x18_3)] [])  (μ : Mem) (h : b_L_law_363 S L xs k18 a1 a2 a3 μ = some X) : JJ γ p l e room_1 s m #[Value.ref b] below meth c 4 108 4635 (lw_Z below #[Value.ref b] s) S μ 363 [(0, .ref b), (1, .ref (gb γ + a1)), (2, .ref (gb γ + a2)), (3, .int a3)] [] := by
  unfold b_L_law_363 at h
  refine j_aload_n F 1 dL_law_363 rfl ?_
  refine j_aload_n F 0 dL_law_364 rfl ?_
  refine j_iload_n F 3 dL_law_365 rfl ?_
  refine j_iconst F 1 dL_law_366 (by decide) ?_
  refine j_iadd F dL_law_367 ?_
  refine j_xld F hr.1 dL_law_368 h (fun v30 h => ?_)
  refine j_aload_n F 0 dL_law_369 rfl ?_
  refine j_iload_n F 3 dL_law_370 rfl ?_
  refine j_iconst F 2 dL_law_371 (by decide) ?_
  refine j_iadd F dL_law_372 ?_
  refine j_xld F hr.1 dL_law_373 h (fun v31 h => ?_)
  refine j_cVI F mi_X11_put w_495 (rest := []) h (fun _ g => c_X11_put g) rfl rfl (Nat.le_of_ble_eq_true rfl) ⟨Nat.le_of_ble_eq_true rfl, Nat.le_of_ble_eq_true rfl⟩ ⟨Nat.le_of_ble_eq_true rfl, Nat.le_of_ble_eq_true rfl⟩ dL_law_374 (fun q32 h => ?_)
  refine j_aload_n F 2 dL_law_377 rfl ?_
  refine j_aload_n F 0 dL_law_378 rfl ?_
  refine j_iload_n F 3 dL_law_379 rfl ?_
  refine j_iconst F 1 dL_law_380 (by decide) ?_
  refine j_iadd F dL_law_381 ?_
  refine j_xld F hr.1 dL_law_382 h (fun v33 h => ?_)
  refine j_aload_n F 0 dL_law_383 rfl ?_
  refine j_iload_n F 3 dL_law_384 rfl ?_
  refine j_iconst F 2 dL_law_385 (by decide) ?_
  refine j_iadd F dL_law_386 ?_
  refine j_xld F hr.1 dL_law_387 h (fun v34 h => ?_)
  refine j_cVI F mi_X12_put w_1131 (rest := [.int q32.1]) h (fun _ g => c_X12_put g) rfl rfl (Nat.le_of_ble_eq_true rfl) ⟨Nat.le_of_ble_eq_true rfl, Nat.le_of_ble_eq_true rfl⟩ ⟨Nat.le_of_ble_eq_true rfl, Nat.le_of_ble_eq_true rfl⟩ dL_law_388 (fun q35 h => ?_)
  refine j_icmpeq F 1311 dL_law_391 (by decide) h (fun _ h => ?_) (fun _ h => ?_)
  · refine j_iinc F 5 3 [(3, .int (a3 + 5)), (0, .ref b), (1, .ref (gb γ + a1)), (2, .ref (gb γ + a2))] dL_law_1311 rfl (by decide) (by decide) rfl ?_
    refine j_goto F 18 dL_law_1314 (by decide) ?_
    refine j_lv [(0, .ref b), (1, .ref (gb γ + a1)), (2, .ref (gb γ + a2)), (3, .int (a3 + 5))] [1, 2, 3, 0] rfl ?_
    exact hk18 _ _ h
  · refine j_iconst F 0 dL_law_394 (by decide) ?_
    exact (law_no h hr.2.1).elim
def b_L_law_396 (S : SH) (L : Nat) (xs : Nat → Int32) (k18 : (Int32 × Mem) → Option (Int32 × Mem)) (a1 : Nat) (a2 : Nat) (a3 : Int32) (μ : Mem) : Option (Int32 × Mem) :=
 (xI L xs (a3 + 1)).bind fun v36 =>
 (f_X11_told S a1 v36 μ).bind fun q37 =>
 (xI L xs (a3 + 1)).bind fun v38 =>
 (f_X12_told S a2 v38 q37.2).bind fun q39 =>
 (if q37.1 = q39.1 then
 k18 (a3 + 5, q39.2)
 else
 some (0, q39.2))
set_option maxRecDepth 100000 in
set_option maxHeartbeats 4000000 in
theorem s_L_law_396 {γ : GE} {p : Program} {l : Launch} {e : Env} {s : State} {m : MethodId} {below : List Frame} {meth : Method} {c : Code} {S : SH} {X : (Int32 × Mem)} {b L : Nat} {xs : Nat → Int32} (F : FX γ p s m #[Value.ref b] meth c cL_law RL 4) (hr : LWX γ s meth b L xs X) (a1 : Nat) (a2 : Nat) (a3 : Int32)  (k18 : (Int32 × Mem) → Option (Int32 × Mem)) (hk18 : ∀ (x18_3 : Int32) (ν : Mem), k18 (x18_3, ν) = some X → JJ γ p l e room_1 s m #[Value.ref b] below meth c 4 108 4635 (lw_Z below #[Value.ref b] s) S ν 18 [(0, .ref b), (1, .ref (gb γ + a1)), (2, .ref (gb γ + a2)), (3, .int x18_3)] [])  (μ : Mem) (h : b_L_law_396 S L xs k18 a1 a2 a3 μ = some X) : JJ γ p l e room_1 s m #[Value.ref b] below meth c 4 108 4635 (lw_Z below #[Value.ref b] s) S μ 396 [(0, .ref b), (1, .ref (gb γ + a1)), (2, .ref (gb γ + a2)), (3, .int a3)] [] := by
  unfold b_L_law_396 at h
  refine j_aload_n F 1 dL_law_396 rfl ?_
  refine j_aload_n F 0 dL_law_397 rfl ?_
  refine j_iload_n F 3 dL_law_398 rfl ?_
  refine j_iconst F 1 dL_law_399 (by decide) ?_
  refine j_iadd F dL_law_400 ?_
  refine j_xld F hr.1 dL_law_401 h (fun v36 h => ?_)
  refine j_cVI F mi_X11_told w_509 (rest := []) h (fun _ g => c_X11_told g) rfl rfl (Nat.le_of_ble_eq_true rfl) ⟨Nat.le_of_ble_eq_true rfl, Nat.le_of_ble_eq_true rfl⟩ ⟨Nat.le_of_ble_eq_true rfl, Nat.le_of_ble_eq_true rfl⟩ dL_law_402 (fun q37 h => ?_)
  refine j_aload_n F 2 dL_law_405 rfl ?_
  refine j_aload_n F 0 dL_law_406 rfl ?_
  refine j_iload_n F 3 dL_law_407 rfl ?_
  refine j_iconst F 1 dL_law_408 (by decide) ?_
  refine j_iadd F dL_law_409 ?_
  refine j_xld F hr.1 dL_law_410 h (fun v38 h => ?_)
  refine j_cVI F mi_X12_told w_1144 (rest := [.int q37.1]) h (fun _ g => c_X12_told g) rfl rfl (Nat.le_of_ble_eq_true rfl) ⟨Nat.le_of_ble_eq_true rfl, Nat.le_of_ble_eq_true rfl⟩ ⟨Nat.le_of_ble_eq_true rfl, Nat.le_of_ble_eq_true rfl⟩ dL_law_411 (fun q39 h => ?_)
  refine j_icmpeq F 1311 dL_law_414 (by decide) h (fun _ h => ?_) (fun _ h => ?_)
  · refine j_iinc F 5 3 [(3, .int (a3 + 5)), (0, .ref b), (1, .ref (gb γ + a1)), (2, .ref (gb γ + a2))] dL_law_1311 rfl (by decide) (by decide) rfl ?_
    refine j_goto F 18 dL_law_1314 (by decide) ?_
    refine j_lv [(0, .ref b), (1, .ref (gb γ + a1)), (2, .ref (gb γ + a2)), (3, .int (a3 + 5))] [1, 2, 3, 0] rfl ?_
    exact hk18 _ _ h
  · refine j_iconst F 0 dL_law_417 (by decide) ?_
    exact (law_no h hr.2.1).elim
def b_L_law_419 (S : SH) (L : Nat) (xs : Nat → Int32) (k18 : (Int32 × Mem) → Option (Int32 × Mem)) (a1 : Nat) (a2 : Nat) (a3 : Int32) (μ : Mem) : Option (Int32 × Mem) :=
 (xI L xs (a3 + 1)).bind fun v40 =>
 (xI L xs (a3 + 2)).bind fun v41 =>
 (f_X11_padOf S a1 v40 v41 μ).bind fun q42 =>
 (xI L xs (a3 + 1)).bind fun v43 =>
 (xI L xs (a3 + 2)).bind fun v44 =>
 (f_X12_padOf S a2 v43 v44 q42.2).bind fun q45 =>
 (if q42.1 = q45.1 then
 k18 (a3 + 5, q45.2)
 else
 some (0, q45.2))
set_option maxRecDepth 100000 in
set_option maxHeartbeats 4000000 in
theorem s_L_law_419 {γ : GE} {p : Program} {l : Launch} {e : Env} {s : State} {m : MethodId} {below : List Frame} {meth : Method} {c : Code} {S : SH} {X : (Int32 × Mem)} {b L : Nat} {xs : Nat → Int32} (F : FX γ p s m #[Value.ref b] meth c cL_law RL 4) (hr : LWX γ s meth b L xs X) (a1 : Nat) (a2 : Nat) (a3 : Int32)  (k18 : (Int32 × Mem) → Option (Int32 × Mem)) (hk18 : ∀ (x18_3 : Int32) (ν : Mem), k18 (x18_3, ν) = some X → JJ γ p l e room_1 s m #[Value.ref b] below meth c 4 108 4635 (lw_Z below #[Value.ref b] s) S ν 18 [(0, .ref b), (1, .ref (gb γ + a1)), (2, .ref (gb γ + a2)), (3, .int x18_3)] [])  (μ : Mem) (h : b_L_law_419 S L xs k18 a1 a2 a3 μ = some X) : JJ γ p l e room_1 s m #[Value.ref b] below meth c 4 108 4635 (lw_Z below #[Value.ref b] s) S μ 419 [(0, .ref b), (1, .ref (gb γ + a1)), (2, .ref (gb γ + a2)), (3, .int a3)] [] := by
  unfold b_L_law_419 at h
  refine j_aload_n F 1 dL_law_419 rfl ?_
  refine j_aload_n F 0 dL_law_420 rfl ?_
  refine j_iload_n F 3 dL_law_421 rfl ?_
  refine j_iconst F 1 dL_law_422 (by decide) ?_
  refine j_iadd F dL_law_423 ?_
  refine j_xld F hr.1 dL_law_424 h (fun v40 h => ?_)
  refine j_aload_n F 0 dL_law_425 rfl ?_
  refine j_iload_n F 3 dL_law_426 rfl ?_
  refine j_iconst F 2 dL_law_427 (by decide) ?_
  refine j_iadd F dL_law_428 ?_
  refine j_xld F hr.1 dL_law_429 h (fun v41 h => ?_)
  refine j_cVJ F mi_X11_padOf w_513 (rest := []) h (fun _ g => c_X11_padOf g) rfl rfl (Nat.le_of_ble_eq_true rfl) ⟨Nat.le_of_ble_eq_true rfl, Nat.le_of_ble_eq_true rfl⟩ ⟨Nat.le_of_ble_eq_true rfl, Nat.le_of_ble_eq_true rfl⟩ dL_law_430 (fun q42 h => ?_)
  refine j_aload_n F 2 dL_law_433 rfl ?_
  refine j_aload_n F 0 dL_law_434 rfl ?_
  refine j_iload_n F 3 dL_law_435 rfl ?_
  refine j_iconst F 1 dL_law_436 (by decide) ?_
  refine j_iadd F dL_law_437 ?_
  refine j_xld F hr.1 dL_law_438 h (fun v43 h => ?_)
  refine j_aload_n F 0 dL_law_439 rfl ?_
  refine j_iload_n F 3 dL_law_440 rfl ?_
  refine j_iconst F 2 dL_law_441 (by decide) ?_
  refine j_iadd F dL_law_442 ?_
  refine j_xld F hr.1 dL_law_443 h (fun v44 h => ?_)
  refine j_cVJ F mi_X12_padOf w_1148 (rest := [.long q42.1]) h (fun _ g => c_X12_padOf g) rfl rfl (Nat.le_of_ble_eq_true rfl) ⟨Nat.le_of_ble_eq_true rfl, Nat.le_of_ble_eq_true rfl⟩ ⟨Nat.le_of_ble_eq_true rfl, Nat.le_of_ble_eq_true rfl⟩ dL_law_444 (fun q45 h => ?_)
  refine j_lcmpeq F 1311 dL_law_447 dL_law_448 (by decide) h (fun _ h => ?_) (fun _ h => ?_)
  · refine j_iinc F 5 3 [(3, .int (a3 + 5)), (0, .ref b), (1, .ref (gb γ + a1)), (2, .ref (gb γ + a2))] dL_law_1311 rfl (by decide) (by decide) rfl ?_
    refine j_goto F 18 dL_law_1314 (by decide) ?_
    refine j_lv [(0, .ref b), (1, .ref (gb γ + a1)), (2, .ref (gb γ + a2)), (3, .int (a3 + 5))] [1, 2, 3, 0] rfl ?_
    exact hk18 _ _ h
  · refine j_iconst F 0 dL_law_451 (by decide) ?_
    exact (law_no h hr.2.1).elim
def b_L_law_453 (S : SH) (L : Nat) (xs : Nat → Int32) (k18 : (Int32 × Mem) → Option (Int32 × Mem)) (a1 : Nat) (a2 : Nat) (a3 : Int32) (μ : Mem) : Option (Int32 × Mem) :=
 (xI L xs (a3 + 1)).bind fun v46 =>
 (xI L xs (a3 + 2)).bind fun v47 =>
 (xI L xs (a3 + 3)).bind fun v48 =>
 (f_X11_entry S a1 v46 v47 v48 μ).bind fun q49 =>
 (xI L xs (a3 + 1)).bind fun v50 =>
 (xI L xs (a3 + 2)).bind fun v51 =>
 (xI L xs (a3 + 3)).bind fun v52 =>
 (f_X12_entry S a2 v50 v51 v52 q49.2).bind fun q53 =>
 (if q49.1 = q53.1 then
 k18 (a3 + 5, q53.2)
 else
 some (0, q53.2))
set_option maxRecDepth 100000 in
set_option maxHeartbeats 4000000 in
theorem s_L_law_453 {γ : GE} {p : Program} {l : Launch} {e : Env} {s : State} {m : MethodId} {below : List Frame} {meth : Method} {c : Code} {S : SH} {X : (Int32 × Mem)} {b L : Nat} {xs : Nat → Int32} (F : FX γ p s m #[Value.ref b] meth c cL_law RL 4) (hr : LWX γ s meth b L xs X) (a1 : Nat) (a2 : Nat) (a3 : Int32)  (k18 : (Int32 × Mem) → Option (Int32 × Mem)) (hk18 : ∀ (x18_3 : Int32) (ν : Mem), k18 (x18_3, ν) = some X → JJ γ p l e room_1 s m #[Value.ref b] below meth c 4 108 4635 (lw_Z below #[Value.ref b] s) S ν 18 [(0, .ref b), (1, .ref (gb γ + a1)), (2, .ref (gb γ + a2)), (3, .int x18_3)] [])  (μ : Mem) (h : b_L_law_453 S L xs k18 a1 a2 a3 μ = some X) : JJ γ p l e room_1 s m #[Value.ref b] below meth c 4 108 4635 (lw_Z below #[Value.ref b] s) S μ 453 [(0, .ref b), (1, .ref (gb γ + a1)), (2, .ref (gb γ + a2)), (3, .int a3)] [] := by
  unfold b_L_law_453 at h
  refine j_aload_n F 1 dL_law_453 rfl ?_
  refine j_aload_n F 0 dL_law_454 rfl ?_
  refine j_iload_n F 3 dL_law_455 rfl ?_
  refine j_iconst F 1 dL_law_456 (by decide) ?_
  refine j_iadd F dL_law_457 ?_
  refine j_xld F hr.1 dL_law_458 h (fun v46 h => ?_)
  refine j_aload_n F 0 dL_law_459 rfl ?_
  refine j_iload_n F 3 dL_law_460 rfl ?_
  refine j_iconst F 2 dL_law_461 (by decide) ?_
  refine j_iadd F dL_law_462 ?_
  refine j_xld F hr.1 dL_law_463 h (fun v47 h => ?_)
  refine j_aload_n F 0 dL_law_464 rfl ?_
  refine j_iload_n F 3 dL_law_465 rfl ?_
  refine j_iconst F 3 dL_law_466 (by decide) ?_
  refine j_iadd F dL_law_467 ?_
  refine j_xld F hr.1 dL_law_468 h (fun v48 h => ?_)
  refine j_cVI F mi_X11_entry w_518 (rest := []) h (fun _ g => c_X11_entry g) rfl rfl (Nat.le_of_ble_eq_true rfl) ⟨Nat.le_of_ble_eq_true rfl, Nat.le_of_ble_eq_true rfl⟩ ⟨Nat.le_of_ble_eq_true rfl, Nat.le_of_ble_eq_true rfl⟩ dL_law_469 (fun q49 h => ?_)
  refine j_aload_n F 2 dL_law_472 rfl ?_
  refine j_aload_n F 0 dL_law_473 rfl ?_
  refine j_iload_n F 3 dL_law_474 rfl ?_
  refine j_iconst F 1 dL_law_475 (by decide) ?_
  refine j_iadd F dL_law_476 ?_
  refine j_xld F hr.1 dL_law_477 h (fun v50 h => ?_)
  refine j_aload_n F 0 dL_law_478 rfl ?_
  refine j_iload_n F 3 dL_law_479 rfl ?_
  refine j_iconst F 2 dL_law_480 (by decide) ?_
  refine j_iadd F dL_law_481 ?_
  refine j_xld F hr.1 dL_law_482 h (fun v51 h => ?_)
  refine j_aload_n F 0 dL_law_483 rfl ?_
  refine j_iload_n F 3 dL_law_484 rfl ?_
  refine j_iconst F 3 dL_law_485 (by decide) ?_
  refine j_iadd F dL_law_486 ?_
  refine j_xld F hr.1 dL_law_487 h (fun v52 h => ?_)
  refine j_cVI F mi_X12_entry w_1153 (rest := [.int q49.1]) h (fun _ g => c_X12_entry g) rfl rfl (Nat.le_of_ble_eq_true rfl) ⟨Nat.le_of_ble_eq_true rfl, Nat.le_of_ble_eq_true rfl⟩ ⟨Nat.le_of_ble_eq_true rfl, Nat.le_of_ble_eq_true rfl⟩ dL_law_488 (fun q53 h => ?_)
  refine j_icmpeq F 1311 dL_law_491 (by decide) h (fun _ h => ?_) (fun _ h => ?_)
  · refine j_iinc F 5 3 [(3, .int (a3 + 5)), (0, .ref b), (1, .ref (gb γ + a1)), (2, .ref (gb γ + a2))] dL_law_1311 rfl (by decide) (by decide) rfl ?_
    refine j_goto F 18 dL_law_1314 (by decide) ?_
    refine j_lv [(0, .ref b), (1, .ref (gb γ + a1)), (2, .ref (gb γ + a2)), (3, .int (a3 + 5))] [1, 2, 3, 0] rfl ?_
    exact hk18 _ _ h
  · refine j_iconst F 0 dL_law_494 (by decide) ?_
    exact (law_no h hr.2.1).elim
def b_L_law_496 (S : SH) (L : Nat) (xs : Nat → Int32) (k18 : (Int32 × Mem) → Option (Int32 × Mem)) (a1 : Nat) (a2 : Nat) (a3 : Int32) (μ : Mem) : Option (Int32 × Mem) :=
 (xI L xs (a3 + 1)).bind fun v54 =>
 (xI L xs (a3 + 2)).bind fun v55 =>
 (f_X11_read S a1 v54 v55 μ).bind fun q56 =>
 (xI L xs (a3 + 1)).bind fun v57 =>
 (xI L xs (a3 + 2)).bind fun v58 =>
 (f_X12_read S a2 v57 v58 q56.2).bind fun q59 =>
 (if q56.1 = q59.1 then
 k18 (a3 + 5, q59.2)
 else
 some (0, q59.2))
set_option maxRecDepth 100000 in
set_option maxHeartbeats 4000000 in
theorem s_L_law_496 {γ : GE} {p : Program} {l : Launch} {e : Env} {s : State} {m : MethodId} {below : List Frame} {meth : Method} {c : Code} {S : SH} {X : (Int32 × Mem)} {b L : Nat} {xs : Nat → Int32} (F : FX γ p s m #[Value.ref b] meth c cL_law RL 4) (hr : LWX γ s meth b L xs X) (a1 : Nat) (a2 : Nat) (a3 : Int32)  (k18 : (Int32 × Mem) → Option (Int32 × Mem)) (hk18 : ∀ (x18_3 : Int32) (ν : Mem), k18 (x18_3, ν) = some X → JJ γ p l e room_1 s m #[Value.ref b] below meth c 4 108 4635 (lw_Z below #[Value.ref b] s) S ν 18 [(0, .ref b), (1, .ref (gb γ + a1)), (2, .ref (gb γ + a2)), (3, .int x18_3)] [])  (μ : Mem) (h : b_L_law_496 S L xs k18 a1 a2 a3 μ = some X) : JJ γ p l e room_1 s m #[Value.ref b] below meth c 4 108 4635 (lw_Z below #[Value.ref b] s) S μ 496 [(0, .ref b), (1, .ref (gb γ + a1)), (2, .ref (gb γ + a2)), (3, .int a3)] [] := by
  unfold b_L_law_496 at h
  refine j_aload_n F 1 dL_law_496 rfl ?_
  refine j_aload_n F 0 dL_law_497 rfl ?_
  refine j_iload_n F 3 dL_law_498 rfl ?_
  refine j_iconst F 1 dL_law_499 (by decide) ?_
  refine j_iadd F dL_law_500 ?_
  refine j_xld F hr.1 dL_law_501 h (fun v54 h => ?_)
  refine j_aload_n F 0 dL_law_502 rfl ?_
  refine j_iload_n F 3 dL_law_503 rfl ?_
  refine j_iconst F 2 dL_law_504 (by decide) ?_
  refine j_iadd F dL_law_505 ?_
  refine j_xld F hr.1 dL_law_506 h (fun v55 h => ?_)
  refine j_cVI F mi_X11_read w_534 (rest := []) h (fun _ g => c_X11_read g) rfl rfl (Nat.le_of_ble_eq_true rfl) ⟨Nat.le_of_ble_eq_true rfl, Nat.le_of_ble_eq_true rfl⟩ ⟨Nat.le_of_ble_eq_true rfl, Nat.le_of_ble_eq_true rfl⟩ dL_law_507 (fun q56 h => ?_)
  refine j_aload_n F 2 dL_law_510 rfl ?_
  refine j_aload_n F 0 dL_law_511 rfl ?_
  refine j_iload_n F 3 dL_law_512 rfl ?_
  refine j_iconst F 1 dL_law_513 (by decide) ?_
  refine j_iadd F dL_law_514 ?_
  refine j_xld F hr.1 dL_law_515 h (fun v57 h => ?_)
  refine j_aload_n F 0 dL_law_516 rfl ?_
  refine j_iload_n F 3 dL_law_517 rfl ?_
  refine j_iconst F 2 dL_law_518 (by decide) ?_
  refine j_iadd F dL_law_519 ?_
  refine j_xld F hr.1 dL_law_520 h (fun v58 h => ?_)
  refine j_cVI F mi_X12_read w_1179 (rest := [.int q56.1]) h (fun _ g => c_X12_read g) rfl rfl (Nat.le_of_ble_eq_true rfl) ⟨Nat.le_of_ble_eq_true rfl, Nat.le_of_ble_eq_true rfl⟩ ⟨Nat.le_of_ble_eq_true rfl, Nat.le_of_ble_eq_true rfl⟩ dL_law_521 (fun q59 h => ?_)
  refine j_icmpeq F 1311 dL_law_524 (by decide) h (fun _ h => ?_) (fun _ h => ?_)
  · refine j_iinc F 5 3 [(3, .int (a3 + 5)), (0, .ref b), (1, .ref (gb γ + a1)), (2, .ref (gb γ + a2))] dL_law_1311 rfl (by decide) (by decide) rfl ?_
    refine j_goto F 18 dL_law_1314 (by decide) ?_
    refine j_lv [(0, .ref b), (1, .ref (gb γ + a1)), (2, .ref (gb γ + a2)), (3, .int (a3 + 5))] [1, 2, 3, 0] rfl ?_
    exact hk18 _ _ h
  · refine j_iconst F 0 dL_law_527 (by decide) ?_
    exact (law_no h hr.2.1).elim
def b_L_law_529 (S : SH) (L : Nat) (xs : Nat → Int32) (k18 : (Int32 × Mem) → Option (Int32 × Mem)) (a1 : Nat) (a2 : Nat) (a3 : Int32) (μ : Mem) : Option (Int32 × Mem) :=
 (xI L xs (a3 + 1)).bind fun v60 =>
 (xI L xs (a3 + 2)).bind fun v61 =>
 (f_X11_allowed S a1 v60 v61 μ).bind fun q62 =>
 (xI L xs (a3 + 1)).bind fun v63 =>
 (xI L xs (a3 + 2)).bind fun v64 =>
 (f_X12_allowed S a2 v63 v64 q62.2).bind fun q65 =>
 (if q62.1 = q65.1 then
 k18 (a3 + 5, q65.2)
 else
 some (0, q65.2))
set_option maxRecDepth 100000 in
set_option maxHeartbeats 4000000 in
theorem s_L_law_529 {γ : GE} {p : Program} {l : Launch} {e : Env} {s : State} {m : MethodId} {below : List Frame} {meth : Method} {c : Code} {S : SH} {X : (Int32 × Mem)} {b L : Nat} {xs : Nat → Int32} (F : FX γ p s m #[Value.ref b] meth c cL_law RL 4) (hr : LWX γ s meth b L xs X) (a1 : Nat) (a2 : Nat) (a3 : Int32)  (k18 : (Int32 × Mem) → Option (Int32 × Mem)) (hk18 : ∀ (x18_3 : Int32) (ν : Mem), k18 (x18_3, ν) = some X → JJ γ p l e room_1 s m #[Value.ref b] below meth c 4 108 4635 (lw_Z below #[Value.ref b] s) S ν 18 [(0, .ref b), (1, .ref (gb γ + a1)), (2, .ref (gb γ + a2)), (3, .int x18_3)] [])  (μ : Mem) (h : b_L_law_529 S L xs k18 a1 a2 a3 μ = some X) : JJ γ p l e room_1 s m #[Value.ref b] below meth c 4 108 4635 (lw_Z below #[Value.ref b] s) S μ 529 [(0, .ref b), (1, .ref (gb γ + a1)), (2, .ref (gb γ + a2)), (3, .int a3)] [] := by
  unfold b_L_law_529 at h
  refine j_aload_n F 1 dL_law_529 rfl ?_
  refine j_aload_n F 0 dL_law_530 rfl ?_
  refine j_iload_n F 3 dL_law_531 rfl ?_
  refine j_iconst F 1 dL_law_532 (by decide) ?_
  refine j_iadd F dL_law_533 ?_
  refine j_xld F hr.1 dL_law_534 h (fun v60 h => ?_)
  refine j_aload_n F 0 dL_law_535 rfl ?_
  refine j_iload_n F 3 dL_law_536 rfl ?_
  refine j_iconst F 2 dL_law_537 (by decide) ?_
  refine j_iadd F dL_law_538 ?_
  refine j_xld F hr.1 dL_law_539 h (fun v61 h => ?_)
  refine j_cVI F mi_X11_allowed w_542 (rest := []) h (fun _ g => c_X11_allowed g) rfl rfl (Nat.le_of_ble_eq_true rfl) ⟨Nat.le_of_ble_eq_true rfl, Nat.le_of_ble_eq_true rfl⟩ ⟨Nat.le_of_ble_eq_true rfl, Nat.le_of_ble_eq_true rfl⟩ dL_law_540 (fun q62 h => ?_)
  refine j_aload_n F 2 dL_law_543 rfl ?_
  refine j_aload_n F 0 dL_law_544 rfl ?_
  refine j_iload_n F 3 dL_law_545 rfl ?_
  refine j_iconst F 1 dL_law_546 (by decide) ?_
  refine j_iadd F dL_law_547 ?_
  refine j_xld F hr.1 dL_law_548 h (fun v63 h => ?_)
  refine j_aload_n F 0 dL_law_549 rfl ?_
  refine j_iload_n F 3 dL_law_550 rfl ?_
  refine j_iconst F 2 dL_law_551 (by decide) ?_
  refine j_iadd F dL_law_552 ?_
  refine j_xld F hr.1 dL_law_553 h (fun v64 h => ?_)
  refine j_cVI F mi_X12_allowed w_1187 (rest := [.int q62.1]) h (fun _ g => c_X12_allowed g) rfl rfl (Nat.le_of_ble_eq_true rfl) ⟨Nat.le_of_ble_eq_true rfl, Nat.le_of_ble_eq_true rfl⟩ ⟨Nat.le_of_ble_eq_true rfl, Nat.le_of_ble_eq_true rfl⟩ dL_law_554 (fun q65 h => ?_)
  refine j_icmpeq F 1311 dL_law_557 (by decide) h (fun _ h => ?_) (fun _ h => ?_)
  · refine j_iinc F 5 3 [(3, .int (a3 + 5)), (0, .ref b), (1, .ref (gb γ + a1)), (2, .ref (gb γ + a2))] dL_law_1311 rfl (by decide) (by decide) rfl ?_
    refine j_goto F 18 dL_law_1314 (by decide) ?_
    refine j_lv [(0, .ref b), (1, .ref (gb γ + a1)), (2, .ref (gb γ + a2)), (3, .int (a3 + 5))] [1, 2, 3, 0] rfl ?_
    exact hk18 _ _ h
  · refine j_iconst F 0 dL_law_560 (by decide) ?_
    exact (law_no h hr.2.1).elim
def b_L_law_562 (S : SH) (L : Nat) (xs : Nat → Int32) (k18 : (Int32 × Mem) → Option (Int32 × Mem)) (a1 : Nat) (a2 : Nat) (a3 : Int32) (μ : Mem) : Option (Int32 × Mem) :=
 (f_X11_weight S a1 μ).bind fun q66 =>
 (f_X12_weight S a2 q66.2).bind fun q67 =>
 (if q66.1 = q67.1 then
 k18 (a3 + 5, q67.2)
 else
 some (0, q67.2))
set_option maxRecDepth 100000 in
set_option maxHeartbeats 4000000 in
theorem s_L_law_562 {γ : GE} {p : Program} {l : Launch} {e : Env} {s : State} {m : MethodId} {below : List Frame} {meth : Method} {c : Code} {S : SH} {X : (Int32 × Mem)} {b L : Nat} {xs : Nat → Int32} (F : FX γ p s m #[Value.ref b] meth c cL_law RL 4) (hr : LWX γ s meth b L xs X) (a1 : Nat) (a2 : Nat) (a3 : Int32)  (k18 : (Int32 × Mem) → Option (Int32 × Mem)) (hk18 : ∀ (x18_3 : Int32) (ν : Mem), k18 (x18_3, ν) = some X → JJ γ p l e room_1 s m #[Value.ref b] below meth c 4 108 4635 (lw_Z below #[Value.ref b] s) S ν 18 [(0, .ref b), (1, .ref (gb γ + a1)), (2, .ref (gb γ + a2)), (3, .int x18_3)] [])  (μ : Mem) (h : b_L_law_562 S L xs k18 a1 a2 a3 μ = some X) : JJ γ p l e room_1 s m #[Value.ref b] below meth c 4 108 4635 (lw_Z below #[Value.ref b] s) S μ 562 [(0, .ref b), (1, .ref (gb γ + a1)), (2, .ref (gb γ + a2)), (3, .int a3)] [] := by
  unfold b_L_law_562 at h
  refine j_aload_n F 1 dL_law_562 rfl ?_
  refine j_cVI F mi_X11_weight w_554 (rest := []) h (fun _ g => c_X11_weight g) rfl rfl (Nat.le_of_ble_eq_true rfl) ⟨Nat.le_of_ble_eq_true rfl, Nat.le_of_ble_eq_true rfl⟩ ⟨Nat.le_of_ble_eq_true rfl, Nat.le_of_ble_eq_true rfl⟩ dL_law_563 (fun q66 h => ?_)
  refine j_aload_n F 2 dL_law_566 rfl ?_
  refine j_cVI F mi_X12_weight w_1199 (rest := [.int q66.1]) h (fun _ g => c_X12_weight g) rfl rfl (Nat.le_of_ble_eq_true rfl) ⟨Nat.le_of_ble_eq_true rfl, Nat.le_of_ble_eq_true rfl⟩ ⟨Nat.le_of_ble_eq_true rfl, Nat.le_of_ble_eq_true rfl⟩ dL_law_567 (fun q67 h => ?_)
  refine j_icmpeq F 1311 dL_law_570 (by decide) h (fun _ h => ?_) (fun _ h => ?_)
  · refine j_iinc F 5 3 [(3, .int (a3 + 5)), (0, .ref b), (1, .ref (gb γ + a1)), (2, .ref (gb γ + a2))] dL_law_1311 rfl (by decide) (by decide) rfl ?_
    refine j_goto F 18 dL_law_1314 (by decide) ?_
    refine j_lv [(0, .ref b), (1, .ref (gb γ + a1)), (2, .ref (gb γ + a2)), (3, .int (a3 + 5))] [1, 2, 3, 0] rfl ?_
    exact hk18 _ _ h
  · refine j_iconst F 0 dL_law_573 (by decide) ?_
    exact (law_no h hr.2.1).elim
def b_L_law_575 (S : SH) (L : Nat) (xs : Nat → Int32) (k18 : (Int32 × Mem) → Option (Int32 × Mem)) (a1 : Nat) (a2 : Nat) (a3 : Int32) (μ : Mem) : Option (Int32 × Mem) :=
 (xI L xs (a3 + 1)).bind fun v68 =>
 (xI L xs (a3 + 2)).bind fun v69 =>
 (f_X11_centre S a1 v68 v69 μ).bind fun q70 =>
 (xI L xs (a3 + 1)).bind fun v71 =>
 (xI L xs (a3 + 2)).bind fun v72 =>
 (f_X12_centre S a2 v71 v72 q70.2).bind fun q73 =>
 (if q70.1 = q73.1 then
 k18 (a3 + 5, q73.2)
 else
 some (0, q73.2))
set_option maxRecDepth 100000 in
set_option maxHeartbeats 4000000 in
theorem s_L_law_575 {γ : GE} {p : Program} {l : Launch} {e : Env} {s : State} {m : MethodId} {below : List Frame} {meth : Method} {c : Code} {S : SH} {X : (Int32 × Mem)} {b L : Nat} {xs : Nat → Int32} (F : FX γ p s m #[Value.ref b] meth c cL_law RL 4) (hr : LWX γ s meth b L xs X) (a1 : Nat) (a2 : Nat) (a3 : Int32)  (k18 : (Int32 × Mem) → Option (Int32 × Mem)) (hk18 : ∀ (x18_3 : Int32) (ν : Mem), k18 (x18_3, ν) = some X → JJ γ p l e room_1 s m #[Value.ref b] below meth c 4 108 4635 (lw_Z below #[Value.ref b] s) S ν 18 [(0, .ref b), (1, .ref (gb γ + a1)), (2, .ref (gb γ + a2)), (3, .int x18_3)] [])  (μ : Mem) (h : b_L_law_575 S L xs k18 a1 a2 a3 μ = some X) : JJ γ p l e room_1 s m #[Value.ref b] below meth c 4 108 4635 (lw_Z below #[Value.ref b] s) S μ 575 [(0, .ref b), (1, .ref (gb γ + a1)), (2, .ref (gb γ + a2)), (3, .int a3)] [] := by
  unfold b_L_law_575 at h
  refine j_aload_n F 1 dL_law_575 rfl ?_
  refine j_aload_n F 0 dL_law_576 rfl ?_
  refine j_iload_n F 3 dL_law_577 rfl ?_
  refine j_iconst F 1 dL_law_578 (by decide) ?_
  refine j_iadd F dL_law_579 ?_
  refine j_xld F hr.1 dL_law_580 h (fun v68 h => ?_)
  refine j_aload_n F 0 dL_law_581 rfl ?_
  refine j_iload_n F 3 dL_law_582 rfl ?_
  refine j_iconst F 2 dL_law_583 (by decide) ?_
  refine j_iadd F dL_law_584 ?_
  refine j_xld F hr.1 dL_law_585 h (fun v69 h => ?_)
  refine j_cVJ F mi_X11_centre w_566 (rest := []) h (fun _ g => c_X11_centre g) rfl rfl (Nat.le_of_ble_eq_true rfl) ⟨Nat.le_of_ble_eq_true rfl, Nat.le_of_ble_eq_true rfl⟩ ⟨Nat.le_of_ble_eq_true rfl, Nat.le_of_ble_eq_true rfl⟩ dL_law_586 (fun q70 h => ?_)
  refine j_aload_n F 2 dL_law_589 rfl ?_
  refine j_aload_n F 0 dL_law_590 rfl ?_
  refine j_iload_n F 3 dL_law_591 rfl ?_
  refine j_iconst F 1 dL_law_592 (by decide) ?_
  refine j_iadd F dL_law_593 ?_
  refine j_xld F hr.1 dL_law_594 h (fun v71 h => ?_)
  refine j_aload_n F 0 dL_law_595 rfl ?_
  refine j_iload_n F 3 dL_law_596 rfl ?_
  refine j_iconst F 2 dL_law_597 (by decide) ?_
  refine j_iadd F dL_law_598 ?_
  refine j_xld F hr.1 dL_law_599 h (fun v72 h => ?_)
  refine j_cVJ F mi_X12_centre w_1227 (rest := [.long q70.1]) h (fun _ g => c_X12_centre g) rfl rfl (Nat.le_of_ble_eq_true rfl) ⟨Nat.le_of_ble_eq_true rfl, Nat.le_of_ble_eq_true rfl⟩ ⟨Nat.le_of_ble_eq_true rfl, Nat.le_of_ble_eq_true rfl⟩ dL_law_600 (fun q73 h => ?_)
  refine j_lcmpeq F 1311 dL_law_603 dL_law_604 (by decide) h (fun _ h => ?_) (fun _ h => ?_)
  · refine j_iinc F 5 3 [(3, .int (a3 + 5)), (0, .ref b), (1, .ref (gb γ + a1)), (2, .ref (gb γ + a2))] dL_law_1311 rfl (by decide) (by decide) rfl ?_
    refine j_goto F 18 dL_law_1314 (by decide) ?_
    refine j_lv [(0, .ref b), (1, .ref (gb γ + a1)), (2, .ref (gb γ + a2)), (3, .int (a3 + 5))] [1, 2, 3, 0] rfl ?_
    exact hk18 _ _ h
  · refine j_iconst F 0 dL_law_607 (by decide) ?_
    exact (law_no h hr.2.1).elim
def b_L_law_609 (S : SH) (L : Nat) (xs : Nat → Int32) (k18 : (Int32 × Mem) → Option (Int32 × Mem)) (a1 : Nat) (a2 : Nat) (a3 : Int32) (μ : Mem) : Option (Int32 × Mem) :=
 (xI L xs (a3 + 1)).bind fun v74 =>
 (xI L xs (a3 + 2)).bind fun v75 =>
 (f_X11_moment S a1 v74 v75 μ).bind fun q76 =>
 (xI L xs (a3 + 1)).bind fun v77 =>
 (xI L xs (a3 + 2)).bind fun v78 =>
 (f_X12_moment S a2 v77 v78 q76.2).bind fun q79 =>
 (if q76.1 = q79.1 then
 k18 (a3 + 5, q79.2)
 else
 some (0, q79.2))
set_option maxRecDepth 100000 in
set_option maxHeartbeats 4000000 in
theorem s_L_law_609 {γ : GE} {p : Program} {l : Launch} {e : Env} {s : State} {m : MethodId} {below : List Frame} {meth : Method} {c : Code} {S : SH} {X : (Int32 × Mem)} {b L : Nat} {xs : Nat → Int32} (F : FX γ p s m #[Value.ref b] meth c cL_law RL 4) (hr : LWX γ s meth b L xs X) (a1 : Nat) (a2 : Nat) (a3 : Int32)  (k18 : (Int32 × Mem) → Option (Int32 × Mem)) (hk18 : ∀ (x18_3 : Int32) (ν : Mem), k18 (x18_3, ν) = some X → JJ γ p l e room_1 s m #[Value.ref b] below meth c 4 108 4635 (lw_Z below #[Value.ref b] s) S ν 18 [(0, .ref b), (1, .ref (gb γ + a1)), (2, .ref (gb γ + a2)), (3, .int x18_3)] [])  (μ : Mem) (h : b_L_law_609 S L xs k18 a1 a2 a3 μ = some X) : JJ γ p l e room_1 s m #[Value.ref b] below meth c 4 108 4635 (lw_Z below #[Value.ref b] s) S μ 609 [(0, .ref b), (1, .ref (gb γ + a1)), (2, .ref (gb γ + a2)), (3, .int a3)] [] := by
  unfold b_L_law_609 at h
  refine j_aload_n F 1 dL_law_609 rfl ?_
  refine j_aload_n F 0 dL_law_610 rfl ?_
  refine j_iload_n F 3 dL_law_611 rfl ?_
  refine j_iconst F 1 dL_law_612 (by decide) ?_
  refine j_iadd F dL_law_613 ?_
  refine j_xld F hr.1 dL_law_614 h (fun v74 h => ?_)
  refine j_aload_n F 0 dL_law_615 rfl ?_
  refine j_iload_n F 3 dL_law_616 rfl ?_
  refine j_iconst F 2 dL_law_617 (by decide) ?_
  refine j_iadd F dL_law_618 ?_
  refine j_xld F hr.1 dL_law_619 h (fun v75 h => ?_)
  refine j_cVJ F mi_X11_moment w_593 (rest := []) h (fun _ g => c_X11_moment g) rfl rfl (Nat.le_of_ble_eq_true rfl) ⟨Nat.le_of_ble_eq_true rfl, Nat.le_of_ble_eq_true rfl⟩ ⟨Nat.le_of_ble_eq_true rfl, Nat.le_of_ble_eq_true rfl⟩ dL_law_620 (fun q76 h => ?_)
  refine j_aload_n F 2 dL_law_623 rfl ?_
  refine j_aload_n F 0 dL_law_624 rfl ?_
  refine j_iload_n F 3 dL_law_625 rfl ?_
  refine j_iconst F 1 dL_law_626 (by decide) ?_
  refine j_iadd F dL_law_627 ?_
  refine j_xld F hr.1 dL_law_628 h (fun v77 h => ?_)
  refine j_aload_n F 0 dL_law_629 rfl ?_
  refine j_iload_n F 3 dL_law_630 rfl ?_
  refine j_iconst F 2 dL_law_631 (by decide) ?_
  refine j_iadd F dL_law_632 ?_
  refine j_xld F hr.1 dL_law_633 h (fun v78 h => ?_)
  refine j_cVJ F mi_X12_moment w_1241 (rest := [.long q76.1]) h (fun _ g => c_X12_moment g) rfl rfl (Nat.le_of_ble_eq_true rfl) ⟨Nat.le_of_ble_eq_true rfl, Nat.le_of_ble_eq_true rfl⟩ ⟨Nat.le_of_ble_eq_true rfl, Nat.le_of_ble_eq_true rfl⟩ dL_law_634 (fun q79 h => ?_)
  refine j_lcmpeq F 1311 dL_law_637 dL_law_638 (by decide) h (fun _ h => ?_) (fun _ h => ?_)
  · refine j_iinc F 5 3 [(3, .int (a3 + 5)), (0, .ref b), (1, .ref (gb γ + a1)), (2, .ref (gb γ + a2))] dL_law_1311 rfl (by decide) (by decide) rfl ?_
    refine j_goto F 18 dL_law_1314 (by decide) ?_
    refine j_lv [(0, .ref b), (1, .ref (gb γ + a1)), (2, .ref (gb γ + a2)), (3, .int (a3 + 5))] [1, 2, 3, 0] rfl ?_
    exact hk18 _ _ h
  · refine j_iconst F 0 dL_law_641 (by decide) ?_
    exact (law_no h hr.2.1).elim
def b_L_law_643 (S : SH) (L : Nat) (xs : Nat → Int32) (k18 : (Int32 × Mem) → Option (Int32 × Mem)) (a1 : Nat) (a2 : Nat) (a3 : Int32) (μ : Mem) : Option (Int32 × Mem) :=
 (xI L xs (a3 + 1)).bind fun v80 =>
 (xI L xs (a3 + 2)).bind fun v81 =>
 (f_X11_factor S a1 v80 v81 μ).bind fun q82 =>
 (xI L xs (a3 + 1)).bind fun v83 =>
 (xI L xs (a3 + 2)).bind fun v84 =>
 (f_X12_factor S a2 v83 v84 q82.2).bind fun q85 =>
 (if q82.1 = q85.1 then
 k18 (a3 + 5, q85.2)
 else
 some (0, q85.2))
set_option maxRecDepth 100000 in
set_option maxHeartbeats 4000000 in
theorem s_L_law_643 {γ : GE} {p : Program} {l : Launch} {e : Env} {s : State} {m : MethodId} {below : List Frame} {meth : Method} {c : Code} {S : SH} {X : (Int32 × Mem)} {b L : Nat} {xs : Nat → Int32} (F : FX γ p s m #[Value.ref b] meth c cL_law RL 4) (hr : LWX γ s meth b L xs X) (a1 : Nat) (a2 : Nat) (a3 : Int32)  (k18 : (Int32 × Mem) → Option (Int32 × Mem)) (hk18 : ∀ (x18_3 : Int32) (ν : Mem), k18 (x18_3, ν) = some X → JJ γ p l e room_1 s m #[Value.ref b] below meth c 4 108 4635 (lw_Z below #[Value.ref b] s) S ν 18 [(0, .ref b), (1, .ref (gb γ + a1)), (2, .ref (gb γ + a2)), (3, .int x18_3)] [])  (μ : Mem) (h : b_L_law_643 S L xs k18 a1 a2 a3 μ = some X) : JJ γ p l e room_1 s m #[Value.ref b] below meth c 4 108 4635 (lw_Z below #[Value.ref b] s) S μ 643 [(0, .ref b), (1, .ref (gb γ + a1)), (2, .ref (gb γ + a2)), (3, .int a3)] [] := by
  unfold b_L_law_643 at h
  refine j_aload_n F 1 dL_law_643 rfl ?_
  refine j_aload_n F 0 dL_law_644 rfl ?_
  refine j_iload_n F 3 dL_law_645 rfl ?_
  refine j_iconst F 1 dL_law_646 (by decide) ?_
  refine j_iadd F dL_law_647 ?_
  refine j_xld F hr.1 dL_law_648 h (fun v80 h => ?_)
  refine j_aload_n F 0 dL_law_649 rfl ?_
  refine j_iload_n F 3 dL_law_650 rfl ?_
  refine j_iconst F 2 dL_law_651 (by decide) ?_
  refine j_iadd F dL_law_652 ?_
  refine j_xld F hr.1 dL_law_653 h (fun v81 h => ?_)
  refine j_cVJ F mi_X11_factor w_603 (rest := []) h (fun _ g => c_X11_factor g) rfl rfl (Nat.le_of_ble_eq_true rfl) ⟨Nat.le_of_ble_eq_true rfl, Nat.le_of_ble_eq_true rfl⟩ ⟨Nat.le_of_ble_eq_true rfl, Nat.le_of_ble_eq_true rfl⟩ dL_law_654 (fun q82 h => ?_)
  refine j_aload_n F 2 dL_law_657 rfl ?_
  refine j_aload_n F 0 dL_law_658 rfl ?_
  refine j_iload_n F 3 dL_law_659 rfl ?_
  refine j_iconst F 1 dL_law_660 (by decide) ?_
  refine j_iadd F dL_law_661 ?_
  refine j_xld F hr.1 dL_law_662 h (fun v83 h => ?_)
  refine j_aload_n F 0 dL_law_663 rfl ?_
  refine j_iload_n F 3 dL_law_664 rfl ?_
  refine j_iconst F 2 dL_law_665 (by decide) ?_
  refine j_iadd F dL_law_666 ?_
  refine j_xld F hr.1 dL_law_667 h (fun v84 h => ?_)
  refine j_cVJ F mi_X12_factor w_1253 (rest := [.long q82.1]) h (fun _ g => c_X12_factor g) rfl rfl (Nat.le_of_ble_eq_true rfl) ⟨Nat.le_of_ble_eq_true rfl, Nat.le_of_ble_eq_true rfl⟩ ⟨Nat.le_of_ble_eq_true rfl, Nat.le_of_ble_eq_true rfl⟩ dL_law_668 (fun q85 h => ?_)
  refine j_lcmpeq F 1311 dL_law_671 dL_law_672 (by decide) h (fun _ h => ?_) (fun _ h => ?_)
  · refine j_iinc F 5 3 [(3, .int (a3 + 5)), (0, .ref b), (1, .ref (gb γ + a1)), (2, .ref (gb γ + a2))] dL_law_1311 rfl (by decide) (by decide) rfl ?_
    refine j_goto F 18 dL_law_1314 (by decide) ?_
    refine j_lv [(0, .ref b), (1, .ref (gb γ + a1)), (2, .ref (gb γ + a2)), (3, .int (a3 + 5))] [1, 2, 3, 0] rfl ?_
    exact hk18 _ _ h
  · refine j_iconst F 0 dL_law_675 (by decide) ?_
    exact (law_no h hr.2.1).elim
def b_L_law_677 (S : SH) (L : Nat) (xs : Nat → Int32) (k18 : (Int32 × Mem) → Option (Int32 × Mem)) (a1 : Nat) (a2 : Nat) (a3 : Int32) (μ : Mem) : Option (Int32 × Mem) :=
 (xI L xs (a3 + 1)).bind fun v86 =>
 (xI L xs (a3 + 2)).bind fun v87 =>
 (f_X11_push S a1 v86 v87 μ).bind fun q88 =>
 (xI L xs (a3 + 1)).bind fun v89 =>
 (xI L xs (a3 + 2)).bind fun v90 =>
 (f_X12_push S a2 v89 v90 q88.2).bind fun q91 =>
 (if q88.1 = q91.1 then
 k18 (a3 + 5, q91.2)
 else
 some (0, q91.2))
set_option maxRecDepth 100000 in
set_option maxHeartbeats 4000000 in
theorem s_L_law_677 {γ : GE} {p : Program} {l : Launch} {e : Env} {s : State} {m : MethodId} {below : List Frame} {meth : Method} {c : Code} {S : SH} {X : (Int32 × Mem)} {b L : Nat} {xs : Nat → Int32} (F : FX γ p s m #[Value.ref b] meth c cL_law RL 4) (hr : LWX γ s meth b L xs X) (a1 : Nat) (a2 : Nat) (a3 : Int32)  (k18 : (Int32 × Mem) → Option (Int32 × Mem)) (hk18 : ∀ (x18_3 : Int32) (ν : Mem), k18 (x18_3, ν) = some X → JJ γ p l e room_1 s m #[Value.ref b] below meth c 4 108 4635 (lw_Z below #[Value.ref b] s) S ν 18 [(0, .ref b), (1, .ref (gb γ + a1)), (2, .ref (gb γ + a2)), (3, .int x18_3)] [])  (μ : Mem) (h : b_L_law_677 S L xs k18 a1 a2 a3 μ = some X) : JJ γ p l e room_1 s m #[Value.ref b] below meth c 4 108 4635 (lw_Z below #[Value.ref b] s) S μ 677 [(0, .ref b), (1, .ref (gb γ + a1)), (2, .ref (gb γ + a2)), (3, .int a3)] [] := by
  unfold b_L_law_677 at h
  refine j_aload_n F 1 dL_law_677 rfl ?_
  refine j_aload_n F 0 dL_law_678 rfl ?_
  refine j_iload_n F 3 dL_law_679 rfl ?_
  refine j_iconst F 1 dL_law_680 (by decide) ?_
  refine j_iadd F dL_law_681 ?_
  refine j_xld F hr.1 dL_law_682 h (fun v86 h => ?_)
  refine j_aload_n F 0 dL_law_683 rfl ?_
  refine j_iload_n F 3 dL_law_684 rfl ?_
  refine j_iconst F 2 dL_law_685 (by decide) ?_
  refine j_iadd F dL_law_686 ?_
  refine j_xld F hr.1 dL_law_687 h (fun v87 h => ?_)
  refine j_cVJ F mi_X11_push w_616 (rest := []) h (fun _ g => c_X11_push g) rfl rfl (Nat.le_of_ble_eq_true rfl) ⟨Nat.le_of_ble_eq_true rfl, Nat.le_of_ble_eq_true rfl⟩ ⟨Nat.le_of_ble_eq_true rfl, Nat.le_of_ble_eq_true rfl⟩ dL_law_688 (fun q88 h => ?_)
  refine j_aload_n F 2 dL_law_691 rfl ?_
  refine j_aload_n F 0 dL_law_692 rfl ?_
  refine j_iload_n F 3 dL_law_693 rfl ?_
  refine j_iconst F 1 dL_law_694 (by decide) ?_
  refine j_iadd F dL_law_695 ?_
  refine j_xld F hr.1 dL_law_696 h (fun v89 h => ?_)
  refine j_aload_n F 0 dL_law_697 rfl ?_
  refine j_iload_n F 3 dL_law_698 rfl ?_
  refine j_iconst F 2 dL_law_699 (by decide) ?_
  refine j_iadd F dL_law_700 ?_
  refine j_xld F hr.1 dL_law_701 h (fun v90 h => ?_)
  refine j_cVJ F mi_X12_push w_1257 (rest := [.long q88.1]) h (fun _ g => c_X12_push g) rfl rfl (Nat.le_of_ble_eq_true rfl) ⟨Nat.le_of_ble_eq_true rfl, Nat.le_of_ble_eq_true rfl⟩ ⟨Nat.le_of_ble_eq_true rfl, Nat.le_of_ble_eq_true rfl⟩ dL_law_702 (fun q91 h => ?_)
  refine j_lcmpeq F 1311 dL_law_705 dL_law_706 (by decide) h (fun _ h => ?_) (fun _ h => ?_)
  · refine j_iinc F 5 3 [(3, .int (a3 + 5)), (0, .ref b), (1, .ref (gb γ + a1)), (2, .ref (gb γ + a2))] dL_law_1311 rfl (by decide) (by decide) rfl ?_
    refine j_goto F 18 dL_law_1314 (by decide) ?_
    refine j_lv [(0, .ref b), (1, .ref (gb γ + a1)), (2, .ref (gb γ + a2)), (3, .int (a3 + 5))] [1, 2, 3, 0] rfl ?_
    exact hk18 _ _ h
  · refine j_iconst F 0 dL_law_709 (by decide) ?_
    exact (law_no h hr.2.1).elim
def b_L_law_711 (S : SH) (L : Nat) (xs : Nat → Int32) (k18 : (Int32 × Mem) → Option (Int32 × Mem)) (a1 : Nat) (a2 : Nat) (a3 : Int32) (μ : Mem) : Option (Int32 × Mem) :=
 (f_X11_lifted S a1 μ).bind fun q92 =>
 (f_X12_lifted S a2 q92.2).bind fun q93 =>
 (if q92.1 = q93.1 then
 k18 (a3 + 5, q93.2)
 else
 some (0, q93.2))
set_option maxRecDepth 100000 in
set_option maxHeartbeats 4000000 in
theorem s_L_law_711 {γ : GE} {p : Program} {l : Launch} {e : Env} {s : State} {m : MethodId} {below : List Frame} {meth : Method} {c : Code} {S : SH} {X : (Int32 × Mem)} {b L : Nat} {xs : Nat → Int32} (F : FX γ p s m #[Value.ref b] meth c cL_law RL 4) (hr : LWX γ s meth b L xs X) (a1 : Nat) (a2 : Nat) (a3 : Int32)  (k18 : (Int32 × Mem) → Option (Int32 × Mem)) (hk18 : ∀ (x18_3 : Int32) (ν : Mem), k18 (x18_3, ν) = some X → JJ γ p l e room_1 s m #[Value.ref b] below meth c 4 108 4635 (lw_Z below #[Value.ref b] s) S ν 18 [(0, .ref b), (1, .ref (gb γ + a1)), (2, .ref (gb γ + a2)), (3, .int x18_3)] [])  (μ : Mem) (h : b_L_law_711 S L xs k18 a1 a2 a3 μ = some X) : JJ γ p l e room_1 s m #[Value.ref b] below meth c 4 108 4635 (lw_Z below #[Value.ref b] s) S μ 711 [(0, .ref b), (1, .ref (gb γ + a1)), (2, .ref (gb γ + a2)), (3, .int a3)] [] := by
  unfold b_L_law_711 at h
  refine j_aload_n F 1 dL_law_711 rfl ?_
  refine j_cVI F mi_X11_lifted w_656 (rest := []) h (fun _ g => c_X11_lifted g) rfl rfl (Nat.le_of_ble_eq_true rfl) ⟨Nat.le_of_ble_eq_true rfl, Nat.le_of_ble_eq_true rfl⟩ ⟨Nat.le_of_ble_eq_true rfl, Nat.le_of_ble_eq_true rfl⟩ dL_law_712 (fun q92 h => ?_)
  refine j_aload_n F 2 dL_law_715 rfl ?_
  refine j_cVI F mi_X12_lifted w_1280 (rest := [.int q92.1]) h (fun _ g => c_X12_lifted g) rfl rfl (Nat.le_of_ble_eq_true rfl) ⟨Nat.le_of_ble_eq_true rfl, Nat.le_of_ble_eq_true rfl⟩ ⟨Nat.le_of_ble_eq_true rfl, Nat.le_of_ble_eq_true rfl⟩ dL_law_716 (fun q93 h => ?_)
  refine j_icmpeq F 1311 dL_law_719 (by decide) h (fun _ h => ?_) (fun _ h => ?_)
  · refine j_iinc F 5 3 [(3, .int (a3 + 5)), (0, .ref b), (1, .ref (gb γ + a1)), (2, .ref (gb γ + a2))] dL_law_1311 rfl (by decide) (by decide) rfl ?_
    refine j_goto F 18 dL_law_1314 (by decide) ?_
    refine j_lv [(0, .ref b), (1, .ref (gb γ + a1)), (2, .ref (gb γ + a2)), (3, .int (a3 + 5))] [1, 2, 3, 0] rfl ?_
    exact hk18 _ _ h
  · refine j_iconst F 0 dL_law_722 (by decide) ?_
    exact (law_no h hr.2.1).elim
def b_L_law_724 (S : SH) (L : Nat) (xs : Nat → Int32) (k18 : (Int32 × Mem) → Option (Int32 × Mem)) (a1 : Nat) (a2 : Nat) (a3 : Int32) (μ : Mem) : Option (Int32 × Mem) :=
 (xI L xs (a3 + 1)).bind fun v94 =>
 (f_X11_mat S a1 v94 μ).bind fun q95 =>
 (xI L xs (a3 + 1)).bind fun v96 =>
 (f_X12_mat S a2 v96 q95.2).bind fun q97 =>
 (if q95.1 = q97.1 then
 k18 (a3 + 5, q97.2)
 else
 some (0, q97.2))
set_option maxRecDepth 100000 in
set_option maxHeartbeats 4000000 in
theorem s_L_law_724 {γ : GE} {p : Program} {l : Launch} {e : Env} {s : State} {m : MethodId} {below : List Frame} {meth : Method} {c : Code} {S : SH} {X : (Int32 × Mem)} {b L : Nat} {xs : Nat → Int32} (F : FX γ p s m #[Value.ref b] meth c cL_law RL 4) (hr : LWX γ s meth b L xs X) (a1 : Nat) (a2 : Nat) (a3 : Int32)  (k18 : (Int32 × Mem) → Option (Int32 × Mem)) (hk18 : ∀ (x18_3 : Int32) (ν : Mem), k18 (x18_3, ν) = some X → JJ γ p l e room_1 s m #[Value.ref b] below meth c 4 108 4635 (lw_Z below #[Value.ref b] s) S ν 18 [(0, .ref b), (1, .ref (gb γ + a1)), (2, .ref (gb γ + a2)), (3, .int x18_3)] [])  (μ : Mem) (h : b_L_law_724 S L xs k18 a1 a2 a3 μ = some X) : JJ γ p l e room_1 s m #[Value.ref b] below meth c 4 108 4635 (lw_Z below #[Value.ref b] s) S μ 724 [(0, .ref b), (1, .ref (gb γ + a1)), (2, .ref (gb γ + a2)), (3, .int a3)] [] := by
  unfold b_L_law_724 at h
  refine j_aload_n F 1 dL_law_724 rfl ?_
  refine j_aload_n F 0 dL_law_725 rfl ?_
  refine j_iload_n F 3 dL_law_726 rfl ?_
  refine j_iconst F 1 dL_law_727 (by decide) ?_
  refine j_iadd F dL_law_728 ?_
  refine j_xld F hr.1 dL_law_729 h (fun v94 h => ?_)
  refine j_cVI F mi_X11_mat w_660 (rest := []) h (fun _ g => c_X11_mat g) rfl rfl (Nat.le_of_ble_eq_true rfl) ⟨Nat.le_of_ble_eq_true rfl, Nat.le_of_ble_eq_true rfl⟩ ⟨Nat.le_of_ble_eq_true rfl, Nat.le_of_ble_eq_true rfl⟩ dL_law_730 (fun q95 h => ?_)
  refine j_aload_n F 2 dL_law_733 rfl ?_
  refine j_aload_n F 0 dL_law_734 rfl ?_
  refine j_iload_n F 3 dL_law_735 rfl ?_
  refine j_iconst F 1 dL_law_736 (by decide) ?_
  refine j_iadd F dL_law_737 ?_
  refine j_xld F hr.1 dL_law_738 h (fun v96 h => ?_)
  refine j_cVI F mi_X12_mat w_1284 (rest := [.int q95.1]) h (fun _ g => c_X12_mat g) rfl rfl (Nat.le_of_ble_eq_true rfl) ⟨Nat.le_of_ble_eq_true rfl, Nat.le_of_ble_eq_true rfl⟩ ⟨Nat.le_of_ble_eq_true rfl, Nat.le_of_ble_eq_true rfl⟩ dL_law_739 (fun q97 h => ?_)
  refine j_icmpeq F 1311 dL_law_742 (by decide) h (fun _ h => ?_) (fun _ h => ?_)
  · refine j_iinc F 5 3 [(3, .int (a3 + 5)), (0, .ref b), (1, .ref (gb γ + a1)), (2, .ref (gb γ + a2))] dL_law_1311 rfl (by decide) (by decide) rfl ?_
    refine j_goto F 18 dL_law_1314 (by decide) ?_
    refine j_lv [(0, .ref b), (1, .ref (gb γ + a1)), (2, .ref (gb γ + a2)), (3, .int (a3 + 5))] [1, 2, 3, 0] rfl ?_
    exact hk18 _ _ h
  · refine j_iconst F 0 dL_law_745 (by decide) ?_
    exact (law_no h hr.2.1).elim
def b_L_law_747 (S : SH) (L : Nat) (xs : Nat → Int32) (k18 : (Int32 × Mem) → Option (Int32 × Mem)) (a1 : Nat) (a2 : Nat) (a3 : Int32) (μ : Mem) : Option (Int32 × Mem) :=
 (f_X11_why S a1 μ).bind fun q98 =>
 (f_X12_why S a2 q98.2).bind fun q99 =>
 (if q98.1 = q99.1 then
 k18 (a3 + 5, q99.2)
 else
 some (0, q99.2))
set_option maxRecDepth 100000 in
set_option maxHeartbeats 4000000 in
theorem s_L_law_747 {γ : GE} {p : Program} {l : Launch} {e : Env} {s : State} {m : MethodId} {below : List Frame} {meth : Method} {c : Code} {S : SH} {X : (Int32 × Mem)} {b L : Nat} {xs : Nat → Int32} (F : FX γ p s m #[Value.ref b] meth c cL_law RL 4) (hr : LWX γ s meth b L xs X) (a1 : Nat) (a2 : Nat) (a3 : Int32)  (k18 : (Int32 × Mem) → Option (Int32 × Mem)) (hk18 : ∀ (x18_3 : Int32) (ν : Mem), k18 (x18_3, ν) = some X → JJ γ p l e room_1 s m #[Value.ref b] below meth c 4 108 4635 (lw_Z below #[Value.ref b] s) S ν 18 [(0, .ref b), (1, .ref (gb γ + a1)), (2, .ref (gb γ + a2)), (3, .int x18_3)] [])  (μ : Mem) (h : b_L_law_747 S L xs k18 a1 a2 a3 μ = some X) : JJ γ p l e room_1 s m #[Value.ref b] below meth c 4 108 4635 (lw_Z below #[Value.ref b] s) S μ 747 [(0, .ref b), (1, .ref (gb γ + a1)), (2, .ref (gb γ + a2)), (3, .int a3)] [] := by
  unfold b_L_law_747 at h
  refine j_aload_n F 1 dL_law_747 rfl ?_
  refine j_cVI F mi_X11_why w_664 (rest := []) h (fun _ g => c_X11_why g) rfl rfl (Nat.le_of_ble_eq_true rfl) ⟨Nat.le_of_ble_eq_true rfl, Nat.le_of_ble_eq_true rfl⟩ ⟨Nat.le_of_ble_eq_true rfl, Nat.le_of_ble_eq_true rfl⟩ dL_law_748 (fun q98 h => ?_)
  refine j_aload_n F 2 dL_law_751 rfl ?_
  refine j_cVI F mi_X12_why w_1288 (rest := [.int q98.1]) h (fun _ g => c_X12_why g) rfl rfl (Nat.le_of_ble_eq_true rfl) ⟨Nat.le_of_ble_eq_true rfl, Nat.le_of_ble_eq_true rfl⟩ ⟨Nat.le_of_ble_eq_true rfl, Nat.le_of_ble_eq_true rfl⟩ dL_law_752 (fun q99 h => ?_)
  refine j_icmpeq F 1311 dL_law_755 (by decide) h (fun _ h => ?_) (fun _ h => ?_)
  · refine j_iinc F 5 3 [(3, .int (a3 + 5)), (0, .ref b), (1, .ref (gb γ + a1)), (2, .ref (gb γ + a2))] dL_law_1311 rfl (by decide) (by decide) rfl ?_
    refine j_goto F 18 dL_law_1314 (by decide) ?_
    refine j_lv [(0, .ref b), (1, .ref (gb γ + a1)), (2, .ref (gb γ + a2)), (3, .int (a3 + 5))] [1, 2, 3, 0] rfl ?_
    exact hk18 _ _ h
  · refine j_iconst F 0 dL_law_758 (by decide) ?_
    exact (law_no h hr.2.1).elim
def b_L_law_760 (S : SH) (L : Nat) (xs : Nat → Int32) (k18 : (Int32 × Mem) → Option (Int32 × Mem)) (a1 : Nat) (a2 : Nat) (a3 : Int32) (μ : Mem) : Option (Int32 × Mem) :=
 (f_X11_most S a1 μ).bind fun q100 =>
 (f_X12_most_ S a2 q100.2).bind fun q101 =>
 (if q100.1 = q101.1 then
 k18 (a3 + 5, q101.2)
 else
 some (0, q101.2))
set_option maxRecDepth 100000 in
set_option maxHeartbeats 4000000 in
theorem s_L_law_760 {γ : GE} {p : Program} {l : Launch} {e : Env} {s : State} {m : MethodId} {below : List Frame} {meth : Method} {c : Code} {S : SH} {X : (Int32 × Mem)} {b L : Nat} {xs : Nat → Int32} (F : FX γ p s m #[Value.ref b] meth c cL_law RL 4) (hr : LWX γ s meth b L xs X) (a1 : Nat) (a2 : Nat) (a3 : Int32)  (k18 : (Int32 × Mem) → Option (Int32 × Mem)) (hk18 : ∀ (x18_3 : Int32) (ν : Mem), k18 (x18_3, ν) = some X → JJ γ p l e room_1 s m #[Value.ref b] below meth c 4 108 4635 (lw_Z below #[Value.ref b] s) S ν 18 [(0, .ref b), (1, .ref (gb γ + a1)), (2, .ref (gb γ + a2)), (3, .int x18_3)] [])  (μ : Mem) (h : b_L_law_760 S L xs k18 a1 a2 a3 μ = some X) : JJ γ p l e room_1 s m #[Value.ref b] below meth c 4 108 4635 (lw_Z below #[Value.ref b] s) S μ 760 [(0, .ref b), (1, .ref (gb γ + a1)), (2, .ref (gb γ + a2)), (3, .int a3)] [] := by
  unfold b_L_law_760 at h
  refine j_aload_n F 1 dL_law_760 rfl ?_
  refine j_cVI F mi_X11_most w_669 (rest := []) h (fun _ g => c_X11_most g) rfl rfl (Nat.le_of_ble_eq_true rfl) ⟨Nat.le_of_ble_eq_true rfl, Nat.le_of_ble_eq_true rfl⟩ ⟨Nat.le_of_ble_eq_true rfl, Nat.le_of_ble_eq_true rfl⟩ dL_law_761 (fun q100 h => ?_)
  refine j_aload_n F 2 dL_law_764 rfl ?_
  refine j_cVI F mi_X12_most_ w_1304 (rest := [.int q100.1]) h (fun _ g => c_X12_most_ g) rfl rfl (Nat.le_of_ble_eq_true rfl) ⟨Nat.le_of_ble_eq_true rfl, Nat.le_of_ble_eq_true rfl⟩ ⟨Nat.le_of_ble_eq_true rfl, Nat.le_of_ble_eq_true rfl⟩ dL_law_765 (fun q101 h => ?_)
  refine j_icmpeq F 1311 dL_law_768 (by decide) h (fun _ h => ?_) (fun _ h => ?_)
  · refine j_iinc F 5 3 [(3, .int (a3 + 5)), (0, .ref b), (1, .ref (gb γ + a1)), (2, .ref (gb γ + a2))] dL_law_1311 rfl (by decide) (by decide) rfl ?_
    refine j_goto F 18 dL_law_1314 (by decide) ?_
    refine j_lv [(0, .ref b), (1, .ref (gb γ + a1)), (2, .ref (gb γ + a2)), (3, .int (a3 + 5))] [1, 2, 3, 0] rfl ?_
    exact hk18 _ _ h
  · refine j_iconst F 0 dL_law_771 (by decide) ?_
    exact (law_no h hr.2.1).elim
def b_L_law_773 (S : SH) (L : Nat) (xs : Nat → Int32) (k18 : (Int32 × Mem) → Option (Int32 × Mem)) (a1 : Nat) (a2 : Nat) (a3 : Int32) (μ : Mem) : Option (Int32 × Mem) :=
 (xI L xs (a3 + 1)).bind fun v102 =>
 (f_X11_where S a1 v102 μ).bind fun q103 =>
 (xI L xs (a3 + 1)).bind fun v104 =>
 (f_X12_where S a2 v104 q103.2).bind fun q105 =>
 (if q103.1 = q105.1 then
 k18 (a3 + 5, q105.2)
 else
 some (0, q105.2))
set_option maxRecDepth 100000 in
set_option maxHeartbeats 4000000 in
theorem s_L_law_773 {γ : GE} {p : Program} {l : Launch} {e : Env} {s : State} {m : MethodId} {below : List Frame} {meth : Method} {c : Code} {S : SH} {X : (Int32 × Mem)} {b L : Nat} {xs : Nat → Int32} (F : FX γ p s m #[Value.ref b] meth c cL_law RL 4) (hr : LWX γ s meth b L xs X) (a1 : Nat) (a2 : Nat) (a3 : Int32)  (k18 : (Int32 × Mem) → Option (Int32 × Mem)) (hk18 : ∀ (x18_3 : Int32) (ν : Mem), k18 (x18_3, ν) = some X → JJ γ p l e room_1 s m #[Value.ref b] below meth c 4 108 4635 (lw_Z below #[Value.ref b] s) S ν 18 [(0, .ref b), (1, .ref (gb γ + a1)), (2, .ref (gb γ + a2)), (3, .int x18_3)] [])  (μ : Mem) (h : b_L_law_773 S L xs k18 a1 a2 a3 μ = some X) : JJ γ p l e room_1 s m #[Value.ref b] below meth c 4 108 4635 (lw_Z below #[Value.ref b] s) S μ 773 [(0, .ref b), (1, .ref (gb γ + a1)), (2, .ref (gb γ + a2)), (3, .int a3)] [] := by
  unfold b_L_law_773 at h
  refine j_aload_n F 1 dL_law_773 rfl ?_
  refine j_aload_n F 0 dL_law_774 rfl ?_
  refine j_iload_n F 3 dL_law_775 rfl ?_
  refine j_iconst F 1 dL_law_776 (by decide) ?_
  refine j_iadd F dL_law_777 ?_
  refine j_xld F hr.1 dL_law_778 h (fun v102 h => ?_)
  refine j_cVI F mi_X11_where w_695 (rest := []) h (fun _ g => c_X11_where g) rfl rfl (Nat.le_of_ble_eq_true rfl) ⟨Nat.le_of_ble_eq_true rfl, Nat.le_of_ble_eq_true rfl⟩ ⟨Nat.le_of_ble_eq_true rfl, Nat.le_of_ble_eq_true rfl⟩ dL_law_779 (fun q103 h => ?_)
  refine j_aload_n F 2 dL_law_782 rfl ?_
  refine j_aload_n F 0 dL_law_783 rfl ?_
  refine j_iload_n F 3 dL_law_784 rfl ?_
  refine j_iconst F 1 dL_law_785 (by decide) ?_
  refine j_iadd F dL_law_786 ?_
  refine j_xld F hr.1 dL_law_787 h (fun v104 h => ?_)
  refine j_cVI F mi_X12_where w_1312 (rest := [.int q103.1]) h (fun _ g => c_X12_where g) rfl rfl (Nat.le_of_ble_eq_true rfl) ⟨Nat.le_of_ble_eq_true rfl, Nat.le_of_ble_eq_true rfl⟩ ⟨Nat.le_of_ble_eq_true rfl, Nat.le_of_ble_eq_true rfl⟩ dL_law_788 (fun q105 h => ?_)
  refine j_icmpeq F 1311 dL_law_791 (by decide) h (fun _ h => ?_) (fun _ h => ?_)
  · refine j_iinc F 5 3 [(3, .int (a3 + 5)), (0, .ref b), (1, .ref (gb γ + a1)), (2, .ref (gb γ + a2))] dL_law_1311 rfl (by decide) (by decide) rfl ?_
    refine j_goto F 18 dL_law_1314 (by decide) ?_
    refine j_lv [(0, .ref b), (1, .ref (gb γ + a1)), (2, .ref (gb γ + a2)), (3, .int (a3 + 5))] [1, 2, 3, 0] rfl ?_
    exact hk18 _ _ h
  · refine j_iconst F 0 dL_law_794 (by decide) ?_
    exact (law_no h hr.2.1).elim
def b_L_law_796 (S : SH) (L : Nat) (xs : Nat → Int32) (k18 : (Int32 × Mem) → Option (Int32 × Mem)) (a1 : Nat) (a2 : Nat) (a3 : Int32) (μ : Mem) : Option (Int32 × Mem) :=
 (xI L xs (a3 + 1)).bind fun v106 =>
 (f_X11_farthest S a1 v106 μ).bind fun q107 =>
 (xI L xs (a3 + 1)).bind fun v108 =>
 (f_X12_farthest S a2 v108 q107.2).bind fun q109 =>
 (if q107.1 = q109.1 then
 k18 (a3 + 5, q109.2)
 else
 some (0, q109.2))
set_option maxRecDepth 100000 in
set_option maxHeartbeats 4000000 in
theorem s_L_law_796 {γ : GE} {p : Program} {l : Launch} {e : Env} {s : State} {m : MethodId} {below : List Frame} {meth : Method} {c : Code} {S : SH} {X : (Int32 × Mem)} {b L : Nat} {xs : Nat → Int32} (F : FX γ p s m #[Value.ref b] meth c cL_law RL 4) (hr : LWX γ s meth b L xs X) (a1 : Nat) (a2 : Nat) (a3 : Int32)  (k18 : (Int32 × Mem) → Option (Int32 × Mem)) (hk18 : ∀ (x18_3 : Int32) (ν : Mem), k18 (x18_3, ν) = some X → JJ γ p l e room_1 s m #[Value.ref b] below meth c 4 108 4635 (lw_Z below #[Value.ref b] s) S ν 18 [(0, .ref b), (1, .ref (gb γ + a1)), (2, .ref (gb γ + a2)), (3, .int x18_3)] [])  (μ : Mem) (h : b_L_law_796 S L xs k18 a1 a2 a3 μ = some X) : JJ γ p l e room_1 s m #[Value.ref b] below meth c 4 108 4635 (lw_Z below #[Value.ref b] s) S μ 796 [(0, .ref b), (1, .ref (gb γ + a1)), (2, .ref (gb γ + a2)), (3, .int a3)] [] := by
  unfold b_L_law_796 at h
  refine j_aload_n F 1 dL_law_796 rfl ?_
  refine j_aload_n F 0 dL_law_797 rfl ?_
  refine j_iload_n F 3 dL_law_798 rfl ?_
  refine j_iconst F 1 dL_law_799 (by decide) ?_
  refine j_iadd F dL_law_800 ?_
  refine j_xld F hr.1 dL_law_801 h (fun v106 h => ?_)
  refine j_cVI F mi_X11_farthest w_703 (rest := []) h (fun _ g => c_X11_farthest g) rfl rfl (Nat.le_of_ble_eq_true rfl) ⟨Nat.le_of_ble_eq_true rfl, Nat.le_of_ble_eq_true rfl⟩ ⟨Nat.le_of_ble_eq_true rfl, Nat.le_of_ble_eq_true rfl⟩ dL_law_802 (fun q107 h => ?_)
  refine j_aload_n F 2 dL_law_805 rfl ?_
  refine j_aload_n F 0 dL_law_806 rfl ?_
  refine j_iload_n F 3 dL_law_807 rfl ?_
  refine j_iconst F 1 dL_law_808 (by decide) ?_
  refine j_iadd F dL_law_809 ?_
  refine j_xld F hr.1 dL_law_810 h (fun v108 h => ?_)
  refine j_cVI F mi_X12_farthest w_1320 (rest := [.int q107.1]) h (fun _ g => c_X12_farthest g) rfl rfl (Nat.le_of_ble_eq_true rfl) ⟨Nat.le_of_ble_eq_true rfl, Nat.le_of_ble_eq_true rfl⟩ ⟨Nat.le_of_ble_eq_true rfl, Nat.le_of_ble_eq_true rfl⟩ dL_law_811 (fun q109 h => ?_)
  refine j_icmpeq F 1311 dL_law_814 (by decide) h (fun _ h => ?_) (fun _ h => ?_)
  · refine j_iinc F 5 3 [(3, .int (a3 + 5)), (0, .ref b), (1, .ref (gb γ + a1)), (2, .ref (gb γ + a2))] dL_law_1311 rfl (by decide) (by decide) rfl ?_
    refine j_goto F 18 dL_law_1314 (by decide) ?_
    refine j_lv [(0, .ref b), (1, .ref (gb γ + a1)), (2, .ref (gb γ + a2)), (3, .int (a3 + 5))] [1, 2, 3, 0] rfl ?_
    exact hk18 _ _ h
  · refine j_iconst F 0 dL_law_817 (by decide) ?_
    exact (law_no h hr.2.1).elim
def b_L_law_819 (S : SH) (L : Nat) (xs : Nat → Int32) (k18 : (Int32 × Mem) → Option (Int32 × Mem)) (a1 : Nat) (a2 : Nat) (a3 : Int32) (μ : Mem) : Option (Int32 × Mem) :=
 (xI L xs (a3 + 1)).bind fun v110 =>
 (xI L xs (a3 + 2)).bind fun v111 =>
 (f_X11_way S a1 v110 v111 μ).bind fun q112 =>
 (xI L xs (a3 + 1)).bind fun v113 =>
 (xI L xs (a3 + 2)).bind fun v114 =>
 (f_X12_way S a2 v113 v114 q112.2).bind fun q115 =>
 (if q112.1 = q115.1 then
 k18 (a3 + 5, q115.2)
 else
 some (0, q115.2))
set_option maxRecDepth 100000 in
set_option maxHeartbeats 4000000 in
theorem s_L_law_819 {γ : GE} {p : Program} {l : Launch} {e : Env} {s : State} {m : MethodId} {below : List Frame} {meth : Method} {c : Code} {S : SH} {X : (Int32 × Mem)} {b L : Nat} {xs : Nat → Int32} (F : FX γ p s m #[Value.ref b] meth c cL_law RL 4) (hr : LWX γ s meth b L xs X) (a1 : Nat) (a2 : Nat) (a3 : Int32)  (k18 : (Int32 × Mem) → Option (Int32 × Mem)) (hk18 : ∀ (x18_3 : Int32) (ν : Mem), k18 (x18_3, ν) = some X → JJ γ p l e room_1 s m #[Value.ref b] below meth c 4 108 4635 (lw_Z below #[Value.ref b] s) S ν 18 [(0, .ref b), (1, .ref (gb γ + a1)), (2, .ref (gb γ + a2)), (3, .int x18_3)] [])  (μ : Mem) (h : b_L_law_819 S L xs k18 a1 a2 a3 μ = some X) : JJ γ p l e room_1 s m #[Value.ref b] below meth c 4 108 4635 (lw_Z below #[Value.ref b] s) S μ 819 [(0, .ref b), (1, .ref (gb γ + a1)), (2, .ref (gb γ + a2)), (3, .int a3)] [] := by
  unfold b_L_law_819 at h
  refine j_aload_n F 1 dL_law_819 rfl ?_
  refine j_aload_n F 0 dL_law_820 rfl ?_
  refine j_iload_n F 3 dL_law_821 rfl ?_
  refine j_iconst F 1 dL_law_822 (by decide) ?_
  refine j_iadd F dL_law_823 ?_
  refine j_xld F hr.1 dL_law_824 h (fun v110 h => ?_)
  refine j_aload_n F 0 dL_law_825 rfl ?_
  refine j_iload_n F 3 dL_law_826 rfl ?_
  refine j_iconst F 2 dL_law_827 (by decide) ?_
  refine j_iadd F dL_law_828 ?_
  refine j_xld F hr.1 dL_law_829 h (fun v111 h => ?_)
  refine j_cVI F mi_X11_way w_707 (rest := []) h (fun _ g => c_X11_way g) rfl rfl (Nat.le_of_ble_eq_true rfl) ⟨Nat.le_of_ble_eq_true rfl, Nat.le_of_ble_eq_true rfl⟩ ⟨Nat.le_of_ble_eq_true rfl, Nat.le_of_ble_eq_true rfl⟩ dL_law_830 (fun q112 h => ?_)
  refine j_aload_n F 2 dL_law_833 rfl ?_
  refine j_aload_n F 0 dL_law_834 rfl ?_
  refine j_iload_n F 3 dL_law_835 rfl ?_
  refine j_iconst F 1 dL_law_836 (by decide) ?_
  refine j_iadd F dL_law_837 ?_
  refine j_xld F hr.1 dL_law_838 h (fun v113 h => ?_)
  refine j_aload_n F 0 dL_law_839 rfl ?_
  refine j_iload_n F 3 dL_law_840 rfl ?_
  refine j_iconst F 2 dL_law_841 (by decide) ?_
  refine j_iadd F dL_law_842 ?_
  refine j_xld F hr.1 dL_law_843 h (fun v114 h => ?_)
  refine j_cVI F mi_X12_way w_1324 (rest := [.int q112.1]) h (fun _ g => c_X12_way g) rfl rfl (Nat.le_of_ble_eq_true rfl) ⟨Nat.le_of_ble_eq_true rfl, Nat.le_of_ble_eq_true rfl⟩ ⟨Nat.le_of_ble_eq_true rfl, Nat.le_of_ble_eq_true rfl⟩ dL_law_844 (fun q115 h => ?_)
  refine j_icmpeq F 1311 dL_law_847 (by decide) h (fun _ h => ?_) (fun _ h => ?_)
  · refine j_iinc F 5 3 [(3, .int (a3 + 5)), (0, .ref b), (1, .ref (gb γ + a1)), (2, .ref (gb γ + a2))] dL_law_1311 rfl (by decide) (by decide) rfl ?_
    refine j_goto F 18 dL_law_1314 (by decide) ?_
    refine j_lv [(0, .ref b), (1, .ref (gb γ + a1)), (2, .ref (gb γ + a2)), (3, .int (a3 + 5))] [1, 2, 3, 0] rfl ?_
    exact hk18 _ _ h
  · refine j_iconst F 0 dL_law_850 (by decide) ?_
    exact (law_no h hr.2.1).elim
def b_L_law_852 (S : SH) (L : Nat) (xs : Nat → Int32) (k18 : (Int32 × Mem) → Option (Int32 × Mem)) (a1 : Nat) (a2 : Nat) (a3 : Int32) (μ : Mem) : Option (Int32 × Mem) :=
 (xI L xs (a3 + 1)).bind fun v116 =>
 (f_X11_ballast S a1 v116 μ).bind fun q117 =>
 (xI L xs (a3 + 1)).bind fun v118 =>
 (f_X12_ballast S a2 v118 q117.2).bind fun q119 =>
 (if q117.1 = q119.1 then
 k18 (a3 + 5, q119.2)
 else
 some (0, q119.2))
set_option maxRecDepth 100000 in
set_option maxHeartbeats 4000000 in
theorem s_L_law_852 {γ : GE} {p : Program} {l : Launch} {e : Env} {s : State} {m : MethodId} {below : List Frame} {meth : Method} {c : Code} {S : SH} {X : (Int32 × Mem)} {b L : Nat} {xs : Nat → Int32} (F : FX γ p s m #[Value.ref b] meth c cL_law RL 4) (hr : LWX γ s meth b L xs X) (a1 : Nat) (a2 : Nat) (a3 : Int32)  (k18 : (Int32 × Mem) → Option (Int32 × Mem)) (hk18 : ∀ (x18_3 : Int32) (ν : Mem), k18 (x18_3, ν) = some X → JJ γ p l e room_1 s m #[Value.ref b] below meth c 4 108 4635 (lw_Z below #[Value.ref b] s) S ν 18 [(0, .ref b), (1, .ref (gb γ + a1)), (2, .ref (gb γ + a2)), (3, .int x18_3)] [])  (μ : Mem) (h : b_L_law_852 S L xs k18 a1 a2 a3 μ = some X) : JJ γ p l e room_1 s m #[Value.ref b] below meth c 4 108 4635 (lw_Z below #[Value.ref b] s) S μ 852 [(0, .ref b), (1, .ref (gb γ + a1)), (2, .ref (gb γ + a2)), (3, .int a3)] [] := by
  unfold b_L_law_852 at h
  refine j_aload_n F 1 dL_law_852 rfl ?_
  refine j_aload_n F 0 dL_law_853 rfl ?_
  refine j_iload_n F 3 dL_law_854 rfl ?_
  refine j_iconst F 1 dL_law_855 (by decide) ?_
  refine j_iadd F dL_law_856 ?_
  refine j_xld F hr.1 dL_law_857 h (fun v116 h => ?_)
  refine j_cVI F mi_X11_ballast w_725 (rest := []) h (fun _ g => c_X11_ballast g) rfl rfl (Nat.le_of_ble_eq_true rfl) ⟨Nat.le_of_ble_eq_true rfl, Nat.le_of_ble_eq_true rfl⟩ ⟨Nat.le_of_ble_eq_true rfl, Nat.le_of_ble_eq_true rfl⟩ dL_law_858 (fun q117 h => ?_)
  refine j_aload_n F 2 dL_law_861 rfl ?_
  refine j_aload_n F 0 dL_law_862 rfl ?_
  refine j_iload_n F 3 dL_law_863 rfl ?_
  refine j_iconst F 1 dL_law_864 (by decide) ?_
  refine j_iadd F dL_law_865 ?_
  refine j_xld F hr.1 dL_law_866 h (fun v118 h => ?_)
  refine j_cVI F mi_X12_ballast w_1332 (rest := [.int q117.1]) h (fun _ g => c_X12_ballast g) rfl rfl (Nat.le_of_ble_eq_true rfl) ⟨Nat.le_of_ble_eq_true rfl, Nat.le_of_ble_eq_true rfl⟩ ⟨Nat.le_of_ble_eq_true rfl, Nat.le_of_ble_eq_true rfl⟩ dL_law_867 (fun q119 h => ?_)
  refine j_icmpeq F 1311 dL_law_870 (by decide) h (fun _ h => ?_) (fun _ h => ?_)
  · refine j_iinc F 5 3 [(3, .int (a3 + 5)), (0, .ref b), (1, .ref (gb γ + a1)), (2, .ref (gb γ + a2))] dL_law_1311 rfl (by decide) (by decide) rfl ?_
    refine j_goto F 18 dL_law_1314 (by decide) ?_
    refine j_lv [(0, .ref b), (1, .ref (gb γ + a1)), (2, .ref (gb γ + a2)), (3, .int (a3 + 5))] [1, 2, 3, 0] rfl ?_
    exact hk18 _ _ h
  · refine j_iconst F 0 dL_law_873 (by decide) ?_
    exact (law_no h hr.2.1).elim
def b_L_law_875 (S : SH) (L : Nat) (xs : Nat → Int32) (k18 : (Int32 × Mem) → Option (Int32 × Mem)) (a1 : Nat) (a2 : Nat) (a3 : Int32) (μ : Mem) : Option (Int32 × Mem) :=
 (xI L xs (a3 + 1)).bind fun v120 =>
 (f_X11_feed S a1 v120 μ).bind fun q121 =>
 (xI L xs (a3 + 1)).bind fun v122 =>
 (f_X12_feed S a2 v122 q121.2).bind fun q123 =>
 (if q121.1 = q123.1 then
 k18 (a3 + 5, q123.2)
 else
 some (0, q123.2))
set_option maxRecDepth 100000 in
set_option maxHeartbeats 4000000 in
theorem s_L_law_875 {γ : GE} {p : Program} {l : Launch} {e : Env} {s : State} {m : MethodId} {below : List Frame} {meth : Method} {c : Code} {S : SH} {X : (Int32 × Mem)} {b L : Nat} {xs : Nat → Int32} (F : FX γ p s m #[Value.ref b] meth c cL_law RL 4) (hr : LWX γ s meth b L xs X) (a1 : Nat) (a2 : Nat) (a3 : Int32)  (k18 : (Int32 × Mem) → Option (Int32 × Mem)) (hk18 : ∀ (x18_3 : Int32) (ν : Mem), k18 (x18_3, ν) = some X → JJ γ p l e room_1 s m #[Value.ref b] below meth c 4 108 4635 (lw_Z below #[Value.ref b] s) S ν 18 [(0, .ref b), (1, .ref (gb γ + a1)), (2, .ref (gb γ + a2)), (3, .int x18_3)] [])  (μ : Mem) (h : b_L_law_875 S L xs k18 a1 a2 a3 μ = some X) : JJ γ p l e room_1 s m #[Value.ref b] below meth c 4 108 4635 (lw_Z below #[Value.ref b] s) S μ 875 [(0, .ref b), (1, .ref (gb γ + a1)), (2, .ref (gb γ + a2)), (3, .int a3)] [] := by
  unfold b_L_law_875 at h
  refine j_aload_n F 1 dL_law_875 rfl ?_
  refine j_aload_n F 0 dL_law_876 rfl ?_
  refine j_iload_n F 3 dL_law_877 rfl ?_
  refine j_iconst F 1 dL_law_878 (by decide) ?_
  refine j_iadd F dL_law_879 ?_
  refine j_xld F hr.1 dL_law_880 h (fun v120 h => ?_)
  refine j_cVI F mi_X11_feed w_729 (rest := []) h (fun _ g => c_X11_feed g) rfl rfl (Nat.le_of_ble_eq_true rfl) ⟨Nat.le_of_ble_eq_true rfl, Nat.le_of_ble_eq_true rfl⟩ ⟨Nat.le_of_ble_eq_true rfl, Nat.le_of_ble_eq_true rfl⟩ dL_law_881 (fun q121 h => ?_)
  refine j_aload_n F 2 dL_law_884 rfl ?_
  refine j_aload_n F 0 dL_law_885 rfl ?_
  refine j_iload_n F 3 dL_law_886 rfl ?_
  refine j_iconst F 1 dL_law_887 (by decide) ?_
  refine j_iadd F dL_law_888 ?_
  refine j_xld F hr.1 dL_law_889 h (fun v122 h => ?_)
  refine j_cVI F mi_X12_feed w_1336 (rest := [.int q121.1]) h (fun _ g => c_X12_feed g) rfl rfl (Nat.le_of_ble_eq_true rfl) ⟨Nat.le_of_ble_eq_true rfl, Nat.le_of_ble_eq_true rfl⟩ ⟨Nat.le_of_ble_eq_true rfl, Nat.le_of_ble_eq_true rfl⟩ dL_law_890 (fun q123 h => ?_)
  refine j_icmpeq F 1311 dL_law_893 (by decide) h (fun _ h => ?_) (fun _ h => ?_)
  · refine j_iinc F 5 3 [(3, .int (a3 + 5)), (0, .ref b), (1, .ref (gb γ + a1)), (2, .ref (gb γ + a2))] dL_law_1311 rfl (by decide) (by decide) rfl ?_
    refine j_goto F 18 dL_law_1314 (by decide) ?_
    refine j_lv [(0, .ref b), (1, .ref (gb γ + a1)), (2, .ref (gb γ + a2)), (3, .int (a3 + 5))] [1, 2, 3, 0] rfl ?_
    exact hk18 _ _ h
  · refine j_iconst F 0 dL_law_896 (by decide) ?_
    exact (law_no h hr.2.1).elim
def b_L_law_898 (S : SH) (L : Nat) (xs : Nat → Int32) (k18 : (Int32 × Mem) → Option (Int32 × Mem)) (a1 : Nat) (a2 : Nat) (a3 : Int32) (μ : Mem) : Option (Int32 × Mem) :=
 (f_X11_clear S a1 μ).bind fun q124 =>
 (f_X12_clear S a2 q124.2).bind fun q125 =>
 (if q124.1 = q125.1 then
 k18 (a3 + 5, q125.2)
 else
 some (0, q125.2))
set_option maxRecDepth 100000 in
set_option maxHeartbeats 4000000 in
theorem s_L_law_898 {γ : GE} {p : Program} {l : Launch} {e : Env} {s : State} {m : MethodId} {below : List Frame} {meth : Method} {c : Code} {S : SH} {X : (Int32 × Mem)} {b L : Nat} {xs : Nat → Int32} (F : FX γ p s m #[Value.ref b] meth c cL_law RL 4) (hr : LWX γ s meth b L xs X) (a1 : Nat) (a2 : Nat) (a3 : Int32)  (k18 : (Int32 × Mem) → Option (Int32 × Mem)) (hk18 : ∀ (x18_3 : Int32) (ν : Mem), k18 (x18_3, ν) = some X → JJ γ p l e room_1 s m #[Value.ref b] below meth c 4 108 4635 (lw_Z below #[Value.ref b] s) S ν 18 [(0, .ref b), (1, .ref (gb γ + a1)), (2, .ref (gb γ + a2)), (3, .int x18_3)] [])  (μ : Mem) (h : b_L_law_898 S L xs k18 a1 a2 a3 μ = some X) : JJ γ p l e room_1 s m #[Value.ref b] below meth c 4 108 4635 (lw_Z below #[Value.ref b] s) S μ 898 [(0, .ref b), (1, .ref (gb γ + a1)), (2, .ref (gb γ + a2)), (3, .int a3)] [] := by
  unfold b_L_law_898 at h
  refine j_aload_n F 1 dL_law_898 rfl ?_
  refine j_cVI F mi_X11_clear w_737 (rest := []) h (fun _ g => c_X11_clear g) rfl rfl (Nat.le_of_ble_eq_true rfl) ⟨Nat.le_of_ble_eq_true rfl, Nat.le_of_ble_eq_true rfl⟩ ⟨Nat.le_of_ble_eq_true rfl, Nat.le_of_ble_eq_true rfl⟩ dL_law_899 (fun q124 h => ?_)
  refine j_aload_n F 2 dL_law_902 rfl ?_
  refine j_cVI F mi_X12_clear w_1340 (rest := [.int q124.1]) h (fun _ g => c_X12_clear g) rfl rfl (Nat.le_of_ble_eq_true rfl) ⟨Nat.le_of_ble_eq_true rfl, Nat.le_of_ble_eq_true rfl⟩ ⟨Nat.le_of_ble_eq_true rfl, Nat.le_of_ble_eq_true rfl⟩ dL_law_903 (fun q125 h => ?_)
  refine j_icmpeq F 1311 dL_law_906 (by decide) h (fun _ h => ?_) (fun _ h => ?_)
  · refine j_iinc F 5 3 [(3, .int (a3 + 5)), (0, .ref b), (1, .ref (gb γ + a1)), (2, .ref (gb γ + a2))] dL_law_1311 rfl (by decide) (by decide) rfl ?_
    refine j_goto F 18 dL_law_1314 (by decide) ?_
    refine j_lv [(0, .ref b), (1, .ref (gb γ + a1)), (2, .ref (gb γ + a2)), (3, .int (a3 + 5))] [1, 2, 3, 0] rfl ?_
    exact hk18 _ _ h
  · refine j_iconst F 0 dL_law_909 (by decide) ?_
    exact (law_no h hr.2.1).elim
def b_L_law_911 (S : SH) (L : Nat) (xs : Nat → Int32) (k18 : (Int32 × Mem) → Option (Int32 × Mem)) (a1 : Nat) (a2 : Nat) (a3 : Int32) (μ : Mem) : Option (Int32 × Mem) :=
 (f_X11_plan S a1 μ).bind fun q126 =>
 (f_X12_plan S a2 q126.2).bind fun q127 =>
 (if q126.1 = q127.1 then
 k18 (a3 + 5, q127.2)
 else
 some (0, q127.2))
set_option maxRecDepth 100000 in
set_option maxHeartbeats 4000000 in
theorem s_L_law_911 {γ : GE} {p : Program} {l : Launch} {e : Env} {s : State} {m : MethodId} {below : List Frame} {meth : Method} {c : Code} {S : SH} {X : (Int32 × Mem)} {b L : Nat} {xs : Nat → Int32} (F : FX γ p s m #[Value.ref b] meth c cL_law RL 4) (hr : LWX γ s meth b L xs X) (a1 : Nat) (a2 : Nat) (a3 : Int32)  (k18 : (Int32 × Mem) → Option (Int32 × Mem)) (hk18 : ∀ (x18_3 : Int32) (ν : Mem), k18 (x18_3, ν) = some X → JJ γ p l e room_1 s m #[Value.ref b] below meth c 4 108 4635 (lw_Z below #[Value.ref b] s) S ν 18 [(0, .ref b), (1, .ref (gb γ + a1)), (2, .ref (gb γ + a2)), (3, .int x18_3)] [])  (μ : Mem) (h : b_L_law_911 S L xs k18 a1 a2 a3 μ = some X) : JJ γ p l e room_1 s m #[Value.ref b] below meth c 4 108 4635 (lw_Z below #[Value.ref b] s) S μ 911 [(0, .ref b), (1, .ref (gb γ + a1)), (2, .ref (gb γ + a2)), (3, .int a3)] [] := by
  unfold b_L_law_911 at h
  refine j_aload_n F 1 dL_law_911 rfl ?_
  refine j_cVI F mi_X11_plan w_741 (rest := []) h (fun _ g => c_X11_plan g) rfl rfl (Nat.le_of_ble_eq_true rfl) ⟨Nat.le_of_ble_eq_true rfl, Nat.le_of_ble_eq_true rfl⟩ ⟨Nat.le_of_ble_eq_true rfl, Nat.le_of_ble_eq_true rfl⟩ dL_law_912 (fun q126 h => ?_)
  refine j_aload_n F 2 dL_law_915 rfl ?_
  refine j_cVI F mi_X12_plan w_1344 (rest := [.int q126.1]) h (fun _ g => c_X12_plan g) rfl rfl (Nat.le_of_ble_eq_true rfl) ⟨Nat.le_of_ble_eq_true rfl, Nat.le_of_ble_eq_true rfl⟩ ⟨Nat.le_of_ble_eq_true rfl, Nat.le_of_ble_eq_true rfl⟩ dL_law_916 (fun q127 h => ?_)
  refine j_icmpeq F 1311 dL_law_919 (by decide) h (fun _ h => ?_) (fun _ h => ?_)
  · refine j_iinc F 5 3 [(3, .int (a3 + 5)), (0, .ref b), (1, .ref (gb γ + a1)), (2, .ref (gb γ + a2))] dL_law_1311 rfl (by decide) (by decide) rfl ?_
    refine j_goto F 18 dL_law_1314 (by decide) ?_
    refine j_lv [(0, .ref b), (1, .ref (gb γ + a1)), (2, .ref (gb γ + a2)), (3, .int (a3 + 5))] [1, 2, 3, 0] rfl ?_
    exact hk18 _ _ h
  · refine j_iconst F 0 dL_law_922 (by decide) ?_
    exact (law_no h hr.2.1).elim
def b_L_law_924 (S : SH) (L : Nat) (xs : Nat → Int32) (k18 : (Int32 × Mem) → Option (Int32 × Mem)) (a1 : Nat) (a2 : Nat) (a3 : Int32) (μ : Mem) : Option (Int32 × Mem) :=
 (xI L xs (a3 + 1)).bind fun v128 =>
 (f_X11_checked S a1 v128 μ).bind fun q129 =>
 (xI L xs (a3 + 1)).bind fun v130 =>
 (f_X12_checked S a2 v130 q129.2).bind fun q131 =>
 (if q129.1 = q131.1 then
 k18 (a3 + 5, q131.2)
 else
 some (0, q131.2))
set_option maxRecDepth 100000 in
set_option maxHeartbeats 4000000 in
theorem s_L_law_924 {γ : GE} {p : Program} {l : Launch} {e : Env} {s : State} {m : MethodId} {below : List Frame} {meth : Method} {c : Code} {S : SH} {X : (Int32 × Mem)} {b L : Nat} {xs : Nat → Int32} (F : FX γ p s m #[Value.ref b] meth c cL_law RL 4) (hr : LWX γ s meth b L xs X) (a1 : Nat) (a2 : Nat) (a3 : Int32)  (k18 : (Int32 × Mem) → Option (Int32 × Mem)) (hk18 : ∀ (x18_3 : Int32) (ν : Mem), k18 (x18_3, ν) = some X → JJ γ p l e room_1 s m #[Value.ref b] below meth c 4 108 4635 (lw_Z below #[Value.ref b] s) S ν 18 [(0, .ref b), (1, .ref (gb γ + a1)), (2, .ref (gb γ + a2)), (3, .int x18_3)] [])  (μ : Mem) (h : b_L_law_924 S L xs k18 a1 a2 a3 μ = some X) : JJ γ p l e room_1 s m #[Value.ref b] below meth c 4 108 4635 (lw_Z below #[Value.ref b] s) S μ 924 [(0, .ref b), (1, .ref (gb γ + a1)), (2, .ref (gb γ + a2)), (3, .int a3)] [] := by
  unfold b_L_law_924 at h
  refine j_aload_n F 1 dL_law_924 rfl ?_
  refine j_aload_n F 0 dL_law_925 rfl ?_
  refine j_iload_n F 3 dL_law_926 rfl ?_
  refine j_iconst F 1 dL_law_927 (by decide) ?_
  refine j_iadd F dL_law_928 ?_
  refine j_xld F hr.1 dL_law_929 h (fun v128 h => ?_)
  refine j_cVI F mi_X11_checked w_831 (rest := []) h (fun _ g => c_X11_checked g) rfl rfl (Nat.le_of_ble_eq_true rfl) ⟨Nat.le_of_ble_eq_true rfl, Nat.le_of_ble_eq_true rfl⟩ ⟨Nat.le_of_ble_eq_true rfl, Nat.le_of_ble_eq_true rfl⟩ dL_law_930 (fun q129 h => ?_)
  refine j_aload_n F 2 dL_law_933 rfl ?_
  refine j_aload_n F 0 dL_law_934 rfl ?_
  refine j_iload_n F 3 dL_law_935 rfl ?_
  refine j_iconst F 1 dL_law_936 (by decide) ?_
  refine j_iadd F dL_law_937 ?_
  refine j_xld F hr.1 dL_law_938 h (fun v130 h => ?_)
  refine j_cVI F mi_X12_checked w_1377 (rest := [.int q129.1]) h (fun _ g => c_X12_checked g) rfl rfl (Nat.le_of_ble_eq_true rfl) ⟨Nat.le_of_ble_eq_true rfl, Nat.le_of_ble_eq_true rfl⟩ ⟨Nat.le_of_ble_eq_true rfl, Nat.le_of_ble_eq_true rfl⟩ dL_law_939 (fun q131 h => ?_)
  refine j_icmpeq F 1311 dL_law_942 (by decide) h (fun _ h => ?_) (fun _ h => ?_)
  · refine j_iinc F 5 3 [(3, .int (a3 + 5)), (0, .ref b), (1, .ref (gb γ + a1)), (2, .ref (gb γ + a2))] dL_law_1311 rfl (by decide) (by decide) rfl ?_
    refine j_goto F 18 dL_law_1314 (by decide) ?_
    refine j_lv [(0, .ref b), (1, .ref (gb γ + a1)), (2, .ref (gb γ + a2)), (3, .int (a3 + 5))] [1, 2, 3, 0] rfl ?_
    exact hk18 _ _ h
  · refine j_iconst F 0 dL_law_945 (by decide) ?_
    exact (law_no h hr.2.1).elim
def b_L_law_947 (S : SH) (L : Nat) (xs : Nat → Int32) (k18 : (Int32 × Mem) → Option (Int32 × Mem)) (a1 : Nat) (a2 : Nat) (a3 : Int32) (μ : Mem) : Option (Int32 × Mem) :=
 (f_X11_spare S a1 μ).bind fun q132 =>
 (f_X12_spare S a2 q132.2).bind fun q133 =>
 (if q132.1 = q133.1 then
 k18 (a3 + 5, q133.2)
 else
 some (0, q133.2))
set_option maxRecDepth 100000 in
set_option maxHeartbeats 4000000 in
theorem s_L_law_947 {γ : GE} {p : Program} {l : Launch} {e : Env} {s : State} {m : MethodId} {below : List Frame} {meth : Method} {c : Code} {S : SH} {X : (Int32 × Mem)} {b L : Nat} {xs : Nat → Int32} (F : FX γ p s m #[Value.ref b] meth c cL_law RL 4) (hr : LWX γ s meth b L xs X) (a1 : Nat) (a2 : Nat) (a3 : Int32)  (k18 : (Int32 × Mem) → Option (Int32 × Mem)) (hk18 : ∀ (x18_3 : Int32) (ν : Mem), k18 (x18_3, ν) = some X → JJ γ p l e room_1 s m #[Value.ref b] below meth c 4 108 4635 (lw_Z below #[Value.ref b] s) S ν 18 [(0, .ref b), (1, .ref (gb γ + a1)), (2, .ref (gb γ + a2)), (3, .int x18_3)] [])  (μ : Mem) (h : b_L_law_947 S L xs k18 a1 a2 a3 μ = some X) : JJ γ p l e room_1 s m #[Value.ref b] below meth c 4 108 4635 (lw_Z below #[Value.ref b] s) S μ 947 [(0, .ref b), (1, .ref (gb γ + a1)), (2, .ref (gb γ + a2)), (3, .int a3)] [] := by
  unfold b_L_law_947 at h
  refine j_aload_n F 1 dL_law_947 rfl ?_
  refine j_cVJ F mi_X11_spare w_858 (rest := []) h (fun _ g => c_X11_spare g) rfl rfl (Nat.le_of_ble_eq_true rfl) ⟨Nat.le_of_ble_eq_true rfl, Nat.le_of_ble_eq_true rfl⟩ ⟨Nat.le_of_ble_eq_true rfl, Nat.le_of_ble_eq_true rfl⟩ dL_law_948 (fun q132 h => ?_)
  refine j_aload_n F 2 dL_law_951 rfl ?_
  refine j_cVJ F mi_X12_spare w_1418 (rest := [.long q132.1]) h (fun _ g => c_X12_spare g) rfl rfl (Nat.le_of_ble_eq_true rfl) ⟨Nat.le_of_ble_eq_true rfl, Nat.le_of_ble_eq_true rfl⟩ ⟨Nat.le_of_ble_eq_true rfl, Nat.le_of_ble_eq_true rfl⟩ dL_law_952 (fun q133 h => ?_)
  refine j_lcmpeq F 1311 dL_law_955 dL_law_956 (by decide) h (fun _ h => ?_) (fun _ h => ?_)
  · refine j_iinc F 5 3 [(3, .int (a3 + 5)), (0, .ref b), (1, .ref (gb γ + a1)), (2, .ref (gb γ + a2))] dL_law_1311 rfl (by decide) (by decide) rfl ?_
    refine j_goto F 18 dL_law_1314 (by decide) ?_
    refine j_lv [(0, .ref b), (1, .ref (gb γ + a1)), (2, .ref (gb γ + a2)), (3, .int (a3 + 5))] [1, 2, 3, 0] rfl ?_
    exact hk18 _ _ h
  · refine j_iconst F 0 dL_law_959 (by decide) ?_
    exact (law_no h hr.2.1).elim
def b_L_law_961 (S : SH) (L : Nat) (xs : Nat → Int32) (k18 : (Int32 × Mem) → Option (Int32 × Mem)) (a1 : Nat) (a2 : Nat) (a3 : Int32) (μ : Mem) : Option (Int32 × Mem) :=
 (f_X11_done S a1 μ).bind fun q134 =>
 (f_X12_done S a2 q134.2).bind fun q135 =>
 (if q134.1 = q135.1 then
 k18 (a3 + 5, q135.2)
 else
 some (0, q135.2))
set_option maxRecDepth 100000 in
set_option maxHeartbeats 4000000 in
theorem s_L_law_961 {γ : GE} {p : Program} {l : Launch} {e : Env} {s : State} {m : MethodId} {below : List Frame} {meth : Method} {c : Code} {S : SH} {X : (Int32 × Mem)} {b L : Nat} {xs : Nat → Int32} (F : FX γ p s m #[Value.ref b] meth c cL_law RL 4) (hr : LWX γ s meth b L xs X) (a1 : Nat) (a2 : Nat) (a3 : Int32)  (k18 : (Int32 × Mem) → Option (Int32 × Mem)) (hk18 : ∀ (x18_3 : Int32) (ν : Mem), k18 (x18_3, ν) = some X → JJ γ p l e room_1 s m #[Value.ref b] below meth c 4 108 4635 (lw_Z below #[Value.ref b] s) S ν 18 [(0, .ref b), (1, .ref (gb γ + a1)), (2, .ref (gb γ + a2)), (3, .int x18_3)] [])  (μ : Mem) (h : b_L_law_961 S L xs k18 a1 a2 a3 μ = some X) : JJ γ p l e room_1 s m #[Value.ref b] below meth c 4 108 4635 (lw_Z below #[Value.ref b] s) S μ 961 [(0, .ref b), (1, .ref (gb γ + a1)), (2, .ref (gb γ + a2)), (3, .int a3)] [] := by
  unfold b_L_law_961 at h
  refine j_aload_n F 1 dL_law_961 rfl ?_
  refine j_cVI F mi_X11_done w_862 (rest := []) h (fun _ g => c_X11_done g) rfl rfl (Nat.le_of_ble_eq_true rfl) ⟨Nat.le_of_ble_eq_true rfl, Nat.le_of_ble_eq_true rfl⟩ ⟨Nat.le_of_ble_eq_true rfl, Nat.le_of_ble_eq_true rfl⟩ dL_law_962 (fun q134 h => ?_)
  refine j_aload_n F 2 dL_law_965 rfl ?_
  refine j_cVI F mi_X12_done w_1422 (rest := [.int q134.1]) h (fun _ g => c_X12_done g) rfl rfl (Nat.le_of_ble_eq_true rfl) ⟨Nat.le_of_ble_eq_true rfl, Nat.le_of_ble_eq_true rfl⟩ ⟨Nat.le_of_ble_eq_true rfl, Nat.le_of_ble_eq_true rfl⟩ dL_law_966 (fun q135 h => ?_)
  refine j_icmpeq F 1311 dL_law_969 (by decide) h (fun _ h => ?_) (fun _ h => ?_)
  · refine j_iinc F 5 3 [(3, .int (a3 + 5)), (0, .ref b), (1, .ref (gb γ + a1)), (2, .ref (gb γ + a2))] dL_law_1311 rfl (by decide) (by decide) rfl ?_
    refine j_goto F 18 dL_law_1314 (by decide) ?_
    refine j_lv [(0, .ref b), (1, .ref (gb γ + a1)), (2, .ref (gb γ + a2)), (3, .int (a3 + 5))] [1, 2, 3, 0] rfl ?_
    exact hk18 _ _ h
  · refine j_iconst F 0 dL_law_972 (by decide) ?_
    exact (law_no h hr.2.1).elim
def b_L_law_974 (S : SH) (L : Nat) (xs : Nat → Int32) (k18 : (Int32 × Mem) → Option (Int32 × Mem)) (a1 : Nat) (a2 : Nat) (a3 : Int32) (μ : Mem) : Option (Int32 × Mem) :=
 (f_X11_backward S a1 μ).bind fun q136 =>
 (f_X12_backward S a2 q136.2).bind fun q137 =>
 (if q136.1 = q137.1 then
 k18 (a3 + 5, q137.2)
 else
 some (0, q137.2))
set_option maxRecDepth 100000 in
set_option maxHeartbeats 4000000 in
theorem s_L_law_974 {γ : GE} {p : Program} {l : Launch} {e : Env} {s : State} {m : MethodId} {below : List Frame} {meth : Method} {c : Code} {S : SH} {X : (Int32 × Mem)} {b L : Nat} {xs : Nat → Int32} (F : FX γ p s m #[Value.ref b] meth c cL_law RL 4) (hr : LWX γ s meth b L xs X) (a1 : Nat) (a2 : Nat) (a3 : Int32)  (k18 : (Int32 × Mem) → Option (Int32 × Mem)) (hk18 : ∀ (x18_3 : Int32) (ν : Mem), k18 (x18_3, ν) = some X → JJ γ p l e room_1 s m #[Value.ref b] below meth c 4 108 4635 (lw_Z below #[Value.ref b] s) S ν 18 [(0, .ref b), (1, .ref (gb γ + a1)), (2, .ref (gb γ + a2)), (3, .int x18_3)] [])  (μ : Mem) (h : b_L_law_974 S L xs k18 a1 a2 a3 μ = some X) : JJ γ p l e room_1 s m #[Value.ref b] below meth c 4 108 4635 (lw_Z below #[Value.ref b] s) S μ 974 [(0, .ref b), (1, .ref (gb γ + a1)), (2, .ref (gb γ + a2)), (3, .int a3)] [] := by
  unfold b_L_law_974 at h
  refine j_aload_n F 1 dL_law_974 rfl ?_
  refine j_cVI F mi_X11_backward w_866 (rest := []) h (fun _ g => c_X11_backward g) rfl rfl (Nat.le_of_ble_eq_true rfl) ⟨Nat.le_of_ble_eq_true rfl, Nat.le_of_ble_eq_true rfl⟩ ⟨Nat.le_of_ble_eq_true rfl, Nat.le_of_ble_eq_true rfl⟩ dL_law_975 (fun q136 h => ?_)
  refine j_aload_n F 2 dL_law_978 rfl ?_
  refine j_cVI F mi_X12_backward w_1426 (rest := [.int q136.1]) h (fun _ g => c_X12_backward g) rfl rfl (Nat.le_of_ble_eq_true rfl) ⟨Nat.le_of_ble_eq_true rfl, Nat.le_of_ble_eq_true rfl⟩ ⟨Nat.le_of_ble_eq_true rfl, Nat.le_of_ble_eq_true rfl⟩ dL_law_979 (fun q137 h => ?_)
  refine j_icmpeq F 1311 dL_law_982 (by decide) h (fun _ h => ?_) (fun _ h => ?_)
  · refine j_iinc F 5 3 [(3, .int (a3 + 5)), (0, .ref b), (1, .ref (gb γ + a1)), (2, .ref (gb γ + a2))] dL_law_1311 rfl (by decide) (by decide) rfl ?_
    refine j_goto F 18 dL_law_1314 (by decide) ?_
    refine j_lv [(0, .ref b), (1, .ref (gb γ + a1)), (2, .ref (gb γ + a2)), (3, .int (a3 + 5))] [1, 2, 3, 0] rfl ?_
    exact hk18 _ _ h
  · refine j_iconst F 0 dL_law_985 (by decide) ?_
    exact (law_no h hr.2.1).elim
def b_L_law_987 (S : SH) (L : Nat) (xs : Nat → Int32) (k18 : (Int32 × Mem) → Option (Int32 × Mem)) (a1 : Nat) (a2 : Nat) (a3 : Int32) (μ : Mem) : Option (Int32 × Mem) :=
 (xI L xs (a3 + 1)).bind fun v138 =>
 (xI L xs (a3 + 2)).bind fun v139 =>
 (xI L xs (a3 + 3)).bind fun v140 =>
 (f_X11_seen S a1 v138 v139 v140 μ).bind fun q141 =>
 (xI L xs (a3 + 1)).bind fun v142 =>
 (xI L xs (a3 + 2)).bind fun v143 =>
 (xI L xs (a3 + 3)).bind fun v144 =>
 (f_X12_seen S a2 v142 v143 v144 q141.2).bind fun q145 =>
 (if q141.1 = q145.1 then
 k18 (a3 + 5, q145.2)
 else
 some (0, q145.2))
set_option maxRecDepth 100000 in
set_option maxHeartbeats 4000000 in
theorem s_L_law_987 {γ : GE} {p : Program} {l : Launch} {e : Env} {s : State} {m : MethodId} {below : List Frame} {meth : Method} {c : Code} {S : SH} {X : (Int32 × Mem)} {b L : Nat} {xs : Nat → Int32} (F : FX γ p s m #[Value.ref b] meth c cL_law RL 4) (hr : LWX γ s meth b L xs X) (a1 : Nat) (a2 : Nat) (a3 : Int32)  (k18 : (Int32 × Mem) → Option (Int32 × Mem)) (hk18 : ∀ (x18_3 : Int32) (ν : Mem), k18 (x18_3, ν) = some X → JJ γ p l e room_1 s m #[Value.ref b] below meth c 4 108 4635 (lw_Z below #[Value.ref b] s) S ν 18 [(0, .ref b), (1, .ref (gb γ + a1)), (2, .ref (gb γ + a2)), (3, .int x18_3)] [])  (μ : Mem) (h : b_L_law_987 S L xs k18 a1 a2 a3 μ = some X) : JJ γ p l e room_1 s m #[Value.ref b] below meth c 4 108 4635 (lw_Z below #[Value.ref b] s) S μ 987 [(0, .ref b), (1, .ref (gb γ + a1)), (2, .ref (gb γ + a2)), (3, .int a3)] [] := by
  unfold b_L_law_987 at h
  refine j_aload_n F 1 dL_law_987 rfl ?_
  refine j_aload_n F 0 dL_law_988 rfl ?_
  refine j_iload_n F 3 dL_law_989 rfl ?_
  refine j_iconst F 1 dL_law_990 (by decide) ?_
  refine j_iadd F dL_law_991 ?_
  refine j_xld F hr.1 dL_law_992 h (fun v138 h => ?_)
  refine j_aload_n F 0 dL_law_993 rfl ?_
  refine j_iload_n F 3 dL_law_994 rfl ?_
  refine j_iconst F 2 dL_law_995 (by decide) ?_
  refine j_iadd F dL_law_996 ?_
  refine j_xld F hr.1 dL_law_997 h (fun v139 h => ?_)
  refine j_aload_n F 0 dL_law_998 rfl ?_
  refine j_iload_n F 3 dL_law_999 rfl ?_
  refine j_iconst F 3 dL_law_1000 (by decide) ?_
  refine j_iadd F dL_law_1001 ?_
  refine j_xld F hr.1 dL_law_1002 h (fun v140 h => ?_)
  refine j_cVI F mi_X11_seen w_879 (rest := []) h (fun _ g => c_X11_seen g) rfl rfl (Nat.le_of_ble_eq_true rfl) ⟨Nat.le_of_ble_eq_true rfl, Nat.le_of_ble_eq_true rfl⟩ ⟨Nat.le_of_ble_eq_true rfl, Nat.le_of_ble_eq_true rfl⟩ dL_law_1003 (fun q141 h => ?_)
  refine j_aload_n F 2 dL_law_1006 rfl ?_
  refine j_aload_n F 0 dL_law_1007 rfl ?_
  refine j_iload_n F 3 dL_law_1008 rfl ?_
  refine j_iconst F 1 dL_law_1009 (by decide) ?_
  refine j_iadd F dL_law_1010 ?_
  refine j_xld F hr.1 dL_law_1011 h (fun v142 h => ?_)
  refine j_aload_n F 0 dL_law_1012 rfl ?_
  refine j_iload_n F 3 dL_law_1013 rfl ?_
  refine j_iconst F 2 dL_law_1014 (by decide) ?_
  refine j_iadd F dL_law_1015 ?_
  refine j_xld F hr.1 dL_law_1016 h (fun v143 h => ?_)
  refine j_aload_n F 0 dL_law_1017 rfl ?_
  refine j_iload_n F 3 dL_law_1018 rfl ?_
  refine j_iconst F 3 dL_law_1019 (by decide) ?_
  refine j_iadd F dL_law_1020 ?_
  refine j_xld F hr.1 dL_law_1021 h (fun v144 h => ?_)
  refine j_cVI F mi_X12_seen w_1430 (rest := [.int q141.1]) h (fun _ g => c_X12_seen g) rfl rfl (Nat.le_of_ble_eq_true rfl) ⟨Nat.le_of_ble_eq_true rfl, Nat.le_of_ble_eq_true rfl⟩ ⟨Nat.le_of_ble_eq_true rfl, Nat.le_of_ble_eq_true rfl⟩ dL_law_1022 (fun q145 h => ?_)
  refine j_icmpeq F 1311 dL_law_1025 (by decide) h (fun _ h => ?_) (fun _ h => ?_)
  · refine j_iinc F 5 3 [(3, .int (a3 + 5)), (0, .ref b), (1, .ref (gb γ + a1)), (2, .ref (gb γ + a2))] dL_law_1311 rfl (by decide) (by decide) rfl ?_
    refine j_goto F 18 dL_law_1314 (by decide) ?_
    refine j_lv [(0, .ref b), (1, .ref (gb γ + a1)), (2, .ref (gb γ + a2)), (3, .int (a3 + 5))] [1, 2, 3, 0] rfl ?_
    exact hk18 _ _ h
  · refine j_iconst F 0 dL_law_1028 (by decide) ?_
    exact (law_no h hr.2.1).elim
def b_L_law_1030 (S : SH) (L : Nat) (xs : Nat → Int32) (k18 : (Int32 × Mem) → Option (Int32 × Mem)) (a1 : Nat) (a2 : Nat) (a3 : Int32) (μ : Mem) : Option (Int32 × Mem) :=
 (xI L xs (a3 + 1)).bind fun v146 =>
 (xI L xs (a3 + 2)).bind fun v147 =>
 (f_X11_lay S a1 v146 v147 μ).bind fun q148 =>
 (xI L xs (a3 + 1)).bind fun v149 =>
 (xI L xs (a3 + 2)).bind fun v150 =>
 (f_X12_lay S a2 v149 v150 q148.2).bind fun q151 =>
 (if q148.1 = q151.1 then
 k18 (a3 + 5, q151.2)
 else
 some (0, q151.2))
set_option maxRecDepth 100000 in
set_option maxHeartbeats 4000000 in
theorem s_L_law_1030 {γ : GE} {p : Program} {l : Launch} {e : Env} {s : State} {m : MethodId} {below : List Frame} {meth : Method} {c : Code} {S : SH} {X : (Int32 × Mem)} {b L : Nat} {xs : Nat → Int32} (F : FX γ p s m #[Value.ref b] meth c cL_law RL 4) (hr : LWX γ s meth b L xs X) (a1 : Nat) (a2 : Nat) (a3 : Int32)  (k18 : (Int32 × Mem) → Option (Int32 × Mem)) (hk18 : ∀ (x18_3 : Int32) (ν : Mem), k18 (x18_3, ν) = some X → JJ γ p l e room_1 s m #[Value.ref b] below meth c 4 108 4635 (lw_Z below #[Value.ref b] s) S ν 18 [(0, .ref b), (1, .ref (gb γ + a1)), (2, .ref (gb γ + a2)), (3, .int x18_3)] [])  (μ : Mem) (h : b_L_law_1030 S L xs k18 a1 a2 a3 μ = some X) : JJ γ p l e room_1 s m #[Value.ref b] below meth c 4 108 4635 (lw_Z below #[Value.ref b] s) S μ 1030 [(0, .ref b), (1, .ref (gb γ + a1)), (2, .ref (gb γ + a2)), (3, .int a3)] [] := by
  unfold b_L_law_1030 at h
  refine j_aload_n F 1 dL_law_1030 rfl ?_
  refine j_aload_n F 0 dL_law_1031 rfl ?_
  refine j_iload_n F 3 dL_law_1032 rfl ?_
  refine j_iconst F 1 dL_law_1033 (by decide) ?_
  refine j_iadd F dL_law_1034 ?_
  refine j_xld F hr.1 dL_law_1035 h (fun v146 h => ?_)
  refine j_aload_n F 0 dL_law_1036 rfl ?_
  refine j_iload_n F 3 dL_law_1037 rfl ?_
  refine j_iconst F 2 dL_law_1038 (by decide) ?_
  refine j_iadd F dL_law_1039 ?_
  refine j_xld F hr.1 dL_law_1040 h (fun v147 h => ?_)
  refine j_cVI F mi_X11_lay w_898 (rest := []) h (fun _ g => c_X11_lay g) rfl rfl (Nat.le_of_ble_eq_true rfl) ⟨Nat.le_of_ble_eq_true rfl, Nat.le_of_ble_eq_true rfl⟩ ⟨Nat.le_of_ble_eq_true rfl, Nat.le_of_ble_eq_true rfl⟩ dL_law_1041 (fun q148 h => ?_)
  refine j_aload_n F 2 dL_law_1044 rfl ?_
  refine j_aload_n F 0 dL_law_1045 rfl ?_
  refine j_iload_n F 3 dL_law_1046 rfl ?_
  refine j_iconst F 1 dL_law_1047 (by decide) ?_
  refine j_iadd F dL_law_1048 ?_
  refine j_xld F hr.1 dL_law_1049 h (fun v149 h => ?_)
  refine j_aload_n F 0 dL_law_1050 rfl ?_
  refine j_iload_n F 3 dL_law_1051 rfl ?_
  refine j_iconst F 2 dL_law_1052 (by decide) ?_
  refine j_iadd F dL_law_1053 ?_
  refine j_xld F hr.1 dL_law_1054 h (fun v150 h => ?_)
  refine j_cVI F mi_X12_lay w_1442 (rest := [.int q148.1]) h (fun _ g => c_X12_lay g) rfl rfl (Nat.le_of_ble_eq_true rfl) ⟨Nat.le_of_ble_eq_true rfl, Nat.le_of_ble_eq_true rfl⟩ ⟨Nat.le_of_ble_eq_true rfl, Nat.le_of_ble_eq_true rfl⟩ dL_law_1055 (fun q151 h => ?_)
  refine j_icmpeq F 1311 dL_law_1058 (by decide) h (fun _ h => ?_) (fun _ h => ?_)
  · refine j_iinc F 5 3 [(3, .int (a3 + 5)), (0, .ref b), (1, .ref (gb γ + a1)), (2, .ref (gb γ + a2))] dL_law_1311 rfl (by decide) (by decide) rfl ?_
    refine j_goto F 18 dL_law_1314 (by decide) ?_
    refine j_lv [(0, .ref b), (1, .ref (gb γ + a1)), (2, .ref (gb γ + a2)), (3, .int (a3 + 5))] [1, 2, 3, 0] rfl ?_
    exact hk18 _ _ h
  · refine j_iconst F 0 dL_law_1061 (by decide) ?_
    exact (law_no h hr.2.1).elim
def b_L_law_1063 (S : SH) (L : Nat) (xs : Nat → Int32) (k18 : (Int32 × Mem) → Option (Int32 × Mem)) (a1 : Nat) (a2 : Nat) (a3 : Int32) (μ : Mem) : Option (Int32 × Mem) :=
 (f_X11_book S a1 μ).bind fun q152 =>
 (f_X12_book S a2 q152.2).bind fun q153 =>
 (if q152.1 = q153.1 then
 k18 (a3 + 5, q153.2)
 else
 some (0, q153.2))
set_option maxRecDepth 100000 in
set_option maxHeartbeats 4000000 in
theorem s_L_law_1063 {γ : GE} {p : Program} {l : Launch} {e : Env} {s : State} {m : MethodId} {below : List Frame} {meth : Method} {c : Code} {S : SH} {X : (Int32 × Mem)} {b L : Nat} {xs : Nat → Int32} (F : FX γ p s m #[Value.ref b] meth c cL_law RL 4) (hr : LWX γ s meth b L xs X) (a1 : Nat) (a2 : Nat) (a3 : Int32)  (k18 : (Int32 × Mem) → Option (Int32 × Mem)) (hk18 : ∀ (x18_3 : Int32) (ν : Mem), k18 (x18_3, ν) = some X → JJ γ p l e room_1 s m #[Value.ref b] below meth c 4 108 4635 (lw_Z below #[Value.ref b] s) S ν 18 [(0, .ref b), (1, .ref (gb γ + a1)), (2, .ref (gb γ + a2)), (3, .int x18_3)] [])  (μ : Mem) (h : b_L_law_1063 S L xs k18 a1 a2 a3 μ = some X) : JJ γ p l e room_1 s m #[Value.ref b] below meth c 4 108 4635 (lw_Z below #[Value.ref b] s) S μ 1063 [(0, .ref b), (1, .ref (gb γ + a1)), (2, .ref (gb γ + a2)), (3, .int a3)] [] := by
  unfold b_L_law_1063 at h
  refine j_aload_n F 1 dL_law_1063 rfl ?_
  refine j_cVI F mi_X11_book w_903 (rest := []) h (fun _ g => c_X11_book g) rfl rfl (Nat.le_of_ble_eq_true rfl) ⟨Nat.le_of_ble_eq_true rfl, Nat.le_of_ble_eq_true rfl⟩ ⟨Nat.le_of_ble_eq_true rfl, Nat.le_of_ble_eq_true rfl⟩ dL_law_1064 (fun q152 h => ?_)
  refine j_aload_n F 2 dL_law_1067 rfl ?_
  refine j_cVI F mi_X12_book w_1458 (rest := [.int q152.1]) h (fun _ g => c_X12_book g) rfl rfl (Nat.le_of_ble_eq_true rfl) ⟨Nat.le_of_ble_eq_true rfl, Nat.le_of_ble_eq_true rfl⟩ ⟨Nat.le_of_ble_eq_true rfl, Nat.le_of_ble_eq_true rfl⟩ dL_law_1068 (fun q153 h => ?_)
  refine j_icmpeq F 1311 dL_law_1071 (by decide) h (fun _ h => ?_) (fun _ h => ?_)
  · refine j_iinc F 5 3 [(3, .int (a3 + 5)), (0, .ref b), (1, .ref (gb γ + a1)), (2, .ref (gb γ + a2))] dL_law_1311 rfl (by decide) (by decide) rfl ?_
    refine j_goto F 18 dL_law_1314 (by decide) ?_
    refine j_lv [(0, .ref b), (1, .ref (gb γ + a1)), (2, .ref (gb γ + a2)), (3, .int (a3 + 5))] [1, 2, 3, 0] rfl ?_
    exact hk18 _ _ h
  · refine j_iconst F 0 dL_law_1074 (by decide) ?_
    exact (law_no h hr.2.1).elim
def b_L_law_1076 (S : SH) (L : Nat) (xs : Nat → Int32) (k18 : (Int32 × Mem) → Option (Int32 × Mem)) (a1 : Nat) (a2 : Nat) (a3 : Int32) (μ : Mem) : Option (Int32 × Mem) :=
 (xI L xs (a3 + 1)).bind fun v154 =>
 (xI L xs (a3 + 2)).bind fun v155 =>
 (f_X11_booked S a1 v154 v155 μ).bind fun q156 =>
 (xI L xs (a3 + 1)).bind fun v157 =>
 (xI L xs (a3 + 2)).bind fun v158 =>
 (f_X12_booked S a2 v157 v158 q156.2).bind fun q159 =>
 (if q156.1 = q159.1 then
 k18 (a3 + 5, q159.2)
 else
 some (0, q159.2))
set_option maxRecDepth 100000 in
set_option maxHeartbeats 4000000 in
theorem s_L_law_1076 {γ : GE} {p : Program} {l : Launch} {e : Env} {s : State} {m : MethodId} {below : List Frame} {meth : Method} {c : Code} {S : SH} {X : (Int32 × Mem)} {b L : Nat} {xs : Nat → Int32} (F : FX γ p s m #[Value.ref b] meth c cL_law RL 4) (hr : LWX γ s meth b L xs X) (a1 : Nat) (a2 : Nat) (a3 : Int32)  (k18 : (Int32 × Mem) → Option (Int32 × Mem)) (hk18 : ∀ (x18_3 : Int32) (ν : Mem), k18 (x18_3, ν) = some X → JJ γ p l e room_1 s m #[Value.ref b] below meth c 4 108 4635 (lw_Z below #[Value.ref b] s) S ν 18 [(0, .ref b), (1, .ref (gb γ + a1)), (2, .ref (gb γ + a2)), (3, .int x18_3)] [])  (μ : Mem) (h : b_L_law_1076 S L xs k18 a1 a2 a3 μ = some X) : JJ γ p l e room_1 s m #[Value.ref b] below meth c 4 108 4635 (lw_Z below #[Value.ref b] s) S μ 1076 [(0, .ref b), (1, .ref (gb γ + a1)), (2, .ref (gb γ + a2)), (3, .int a3)] [] := by
  unfold b_L_law_1076 at h
  refine j_aload_n F 1 dL_law_1076 rfl ?_
  refine j_aload_n F 0 dL_law_1077 rfl ?_
  refine j_iload_n F 3 dL_law_1078 rfl ?_
  refine j_iconst F 1 dL_law_1079 (by decide) ?_
  refine j_iadd F dL_law_1080 ?_
  refine j_xld F hr.1 dL_law_1081 h (fun v154 h => ?_)
  refine j_aload_n F 0 dL_law_1082 rfl ?_
  refine j_iload_n F 3 dL_law_1083 rfl ?_
  refine j_iconst F 2 dL_law_1084 (by decide) ?_
  refine j_iadd F dL_law_1085 ?_
  refine j_xld F hr.1 dL_law_1086 h (fun v155 h => ?_)
  refine j_cVI F mi_X11_booked w_916 (rest := []) h (fun _ g => c_X11_booked g) rfl rfl (Nat.le_of_ble_eq_true rfl) ⟨Nat.le_of_ble_eq_true rfl, Nat.le_of_ble_eq_true rfl⟩ ⟨Nat.le_of_ble_eq_true rfl, Nat.le_of_ble_eq_true rfl⟩ dL_law_1087 (fun q156 h => ?_)
  refine j_aload_n F 2 dL_law_1090 rfl ?_
  refine j_aload_n F 0 dL_law_1091 rfl ?_
  refine j_iload_n F 3 dL_law_1092 rfl ?_
  refine j_iconst F 1 dL_law_1093 (by decide) ?_
  refine j_iadd F dL_law_1094 ?_
  refine j_xld F hr.1 dL_law_1095 h (fun v157 h => ?_)
  refine j_aload_n F 0 dL_law_1096 rfl ?_
  refine j_iload_n F 3 dL_law_1097 rfl ?_
  refine j_iconst F 2 dL_law_1098 (by decide) ?_
  refine j_iadd F dL_law_1099 ?_
  refine j_xld F hr.1 dL_law_1100 h (fun v158 h => ?_)
  refine j_cVI F mi_X12_booked w_1462 (rest := [.int q156.1]) h (fun _ g => c_X12_booked g) rfl rfl (Nat.le_of_ble_eq_true rfl) ⟨Nat.le_of_ble_eq_true rfl, Nat.le_of_ble_eq_true rfl⟩ ⟨Nat.le_of_ble_eq_true rfl, Nat.le_of_ble_eq_true rfl⟩ dL_law_1101 (fun q159 h => ?_)
  refine j_icmpeq F 1311 dL_law_1104 (by decide) h (fun _ h => ?_) (fun _ h => ?_)
  · refine j_iinc F 5 3 [(3, .int (a3 + 5)), (0, .ref b), (1, .ref (gb γ + a1)), (2, .ref (gb γ + a2))] dL_law_1311 rfl (by decide) (by decide) rfl ?_
    refine j_goto F 18 dL_law_1314 (by decide) ?_
    refine j_lv [(0, .ref b), (1, .ref (gb γ + a1)), (2, .ref (gb γ + a2)), (3, .int (a3 + 5))] [1, 2, 3, 0] rfl ?_
    exact hk18 _ _ h
  · refine j_iconst F 0 dL_law_1107 (by decide) ?_
    exact (law_no h hr.2.1).elim
def b_L_law_1109 (S : SH) (L : Nat) (xs : Nat → Int32) (k18 : (Int32 × Mem) → Option (Int32 × Mem)) (a1 : Nat) (a2 : Nat) (a3 : Int32) (μ : Mem) : Option (Int32 × Mem) :=
 (f_X11_heaviest S a1 μ).bind fun q160 =>
 (f_X12_heaviest S a2 q160.2).bind fun q161 =>
 (if q160.1 = q161.1 then
 k18 (a3 + 5, q161.2)
 else
 some (0, q161.2))
set_option maxRecDepth 100000 in
set_option maxHeartbeats 4000000 in
theorem s_L_law_1109 {γ : GE} {p : Program} {l : Launch} {e : Env} {s : State} {m : MethodId} {below : List Frame} {meth : Method} {c : Code} {S : SH} {X : (Int32 × Mem)} {b L : Nat} {xs : Nat → Int32} (F : FX γ p s m #[Value.ref b] meth c cL_law RL 4) (hr : LWX γ s meth b L xs X) (a1 : Nat) (a2 : Nat) (a3 : Int32)  (k18 : (Int32 × Mem) → Option (Int32 × Mem)) (hk18 : ∀ (x18_3 : Int32) (ν : Mem), k18 (x18_3, ν) = some X → JJ γ p l e room_1 s m #[Value.ref b] below meth c 4 108 4635 (lw_Z below #[Value.ref b] s) S ν 18 [(0, .ref b), (1, .ref (gb γ + a1)), (2, .ref (gb γ + a2)), (3, .int x18_3)] [])  (μ : Mem) (h : b_L_law_1109 S L xs k18 a1 a2 a3 μ = some X) : JJ γ p l e room_1 s m #[Value.ref b] below meth c 4 108 4635 (lw_Z below #[Value.ref b] s) S μ 1109 [(0, .ref b), (1, .ref (gb γ + a1)), (2, .ref (gb γ + a2)), (3, .int a3)] [] := by
  unfold b_L_law_1109 at h
  refine j_aload_n F 1 dL_law_1109 rfl ?_
  refine j_cVI F mi_X11_heaviest w_924 (rest := []) h (fun _ g => c_X11_heaviest g) rfl rfl (Nat.le_of_ble_eq_true rfl) ⟨Nat.le_of_ble_eq_true rfl, Nat.le_of_ble_eq_true rfl⟩ ⟨Nat.le_of_ble_eq_true rfl, Nat.le_of_ble_eq_true rfl⟩ dL_law_1110 (fun q160 h => ?_)
  refine j_aload_n F 2 dL_law_1113 rfl ?_
  refine j_cVI F mi_X12_heaviest w_1470 (rest := [.int q160.1]) h (fun _ g => c_X12_heaviest g) rfl rfl (Nat.le_of_ble_eq_true rfl) ⟨Nat.le_of_ble_eq_true rfl, Nat.le_of_ble_eq_true rfl⟩ ⟨Nat.le_of_ble_eq_true rfl, Nat.le_of_ble_eq_true rfl⟩ dL_law_1114 (fun q161 h => ?_)
  refine j_icmpeq F 1311 dL_law_1117 (by decide) h (fun _ h => ?_) (fun _ h => ?_)
  · refine j_iinc F 5 3 [(3, .int (a3 + 5)), (0, .ref b), (1, .ref (gb γ + a1)), (2, .ref (gb γ + a2))] dL_law_1311 rfl (by decide) (by decide) rfl ?_
    refine j_goto F 18 dL_law_1314 (by decide) ?_
    refine j_lv [(0, .ref b), (1, .ref (gb γ + a1)), (2, .ref (gb γ + a2)), (3, .int (a3 + 5))] [1, 2, 3, 0] rfl ?_
    exact hk18 _ _ h
  · refine j_iconst F 0 dL_law_1120 (by decide) ?_
    exact (law_no h hr.2.1).elim
def b_L_law_1122 (S : SH) (L : Nat) (xs : Nat → Int32) (k18 : (Int32 × Mem) → Option (Int32 × Mem)) (a1 : Nat) (a2 : Nat) (a3 : Int32) (μ : Mem) : Option (Int32 × Mem) :=
 (xI L xs (a3 + 1)).bind fun v162 =>
 (xI L xs (a3 + 2)).bind fun v163 =>
 (f_X11_list S a1 v162 v163 μ).bind fun q164 =>
 (xI L xs (a3 + 1)).bind fun v165 =>
 (xI L xs (a3 + 2)).bind fun v166 =>
 (f_X12_list S a2 v165 v166 q164.2).bind fun q167 =>
 (if q164.1 = q167.1 then
 k18 (a3 + 5, q167.2)
 else
 some (0, q167.2))
set_option maxRecDepth 100000 in
set_option maxHeartbeats 4000000 in
theorem s_L_law_1122 {γ : GE} {p : Program} {l : Launch} {e : Env} {s : State} {m : MethodId} {below : List Frame} {meth : Method} {c : Code} {S : SH} {X : (Int32 × Mem)} {b L : Nat} {xs : Nat → Int32} (F : FX γ p s m #[Value.ref b] meth c cL_law RL 4) (hr : LWX γ s meth b L xs X) (a1 : Nat) (a2 : Nat) (a3 : Int32)  (k18 : (Int32 × Mem) → Option (Int32 × Mem)) (hk18 : ∀ (x18_3 : Int32) (ν : Mem), k18 (x18_3, ν) = some X → JJ γ p l e room_1 s m #[Value.ref b] below meth c 4 108 4635 (lw_Z below #[Value.ref b] s) S ν 18 [(0, .ref b), (1, .ref (gb γ + a1)), (2, .ref (gb γ + a2)), (3, .int x18_3)] [])  (μ : Mem) (h : b_L_law_1122 S L xs k18 a1 a2 a3 μ = some X) : JJ γ p l e room_1 s m #[Value.ref b] below meth c 4 108 4635 (lw_Z below #[Value.ref b] s) S μ 1122 [(0, .ref b), (1, .ref (gb γ + a1)), (2, .ref (gb γ + a2)), (3, .int a3)] [] := by
  unfold b_L_law_1122 at h
  refine j_aload_n F 1 dL_law_1122 rfl ?_
  refine j_aload_n F 0 dL_law_1123 rfl ?_
  refine j_iload_n F 3 dL_law_1124 rfl ?_
  refine j_iconst F 1 dL_law_1125 (by decide) ?_
  refine j_iadd F dL_law_1126 ?_
  refine j_xld F hr.1 dL_law_1127 h (fun v162 h => ?_)
  refine j_aload_n F 0 dL_law_1128 rfl ?_
  refine j_iload_n F 3 dL_law_1129 rfl ?_
  refine j_iconst F 2 dL_law_1130 (by decide) ?_
  refine j_iadd F dL_law_1131 ?_
  refine j_xld F hr.1 dL_law_1132 h (fun v163 h => ?_)
  refine j_cVI F mi_X11_list w_932 (rest := []) h (fun _ g => c_X11_list g) rfl rfl (Nat.le_of_ble_eq_true rfl) ⟨Nat.le_of_ble_eq_true rfl, Nat.le_of_ble_eq_true rfl⟩ ⟨Nat.le_of_ble_eq_true rfl, Nat.le_of_ble_eq_true rfl⟩ dL_law_1133 (fun q164 h => ?_)
  refine j_aload_n F 2 dL_law_1136 rfl ?_
  refine j_aload_n F 0 dL_law_1137 rfl ?_
  refine j_iload_n F 3 dL_law_1138 rfl ?_
  refine j_iconst F 1 dL_law_1139 (by decide) ?_
  refine j_iadd F dL_law_1140 ?_
  refine j_xld F hr.1 dL_law_1141 h (fun v165 h => ?_)
  refine j_aload_n F 0 dL_law_1142 rfl ?_
  refine j_iload_n F 3 dL_law_1143 rfl ?_
  refine j_iconst F 2 dL_law_1144 (by decide) ?_
  refine j_iadd F dL_law_1145 ?_
  refine j_xld F hr.1 dL_law_1146 h (fun v166 h => ?_)
  refine j_cVI F mi_X12_list w_1446 (rest := [.int q164.1]) h (fun _ g => c_X12_list g) rfl rfl (Nat.le_of_ble_eq_true rfl) ⟨Nat.le_of_ble_eq_true rfl, Nat.le_of_ble_eq_true rfl⟩ ⟨Nat.le_of_ble_eq_true rfl, Nat.le_of_ble_eq_true rfl⟩ dL_law_1147 (fun q167 h => ?_)
  refine j_icmpeq F 1311 dL_law_1150 (by decide) h (fun _ h => ?_) (fun _ h => ?_)
  · refine j_iinc F 5 3 [(3, .int (a3 + 5)), (0, .ref b), (1, .ref (gb γ + a1)), (2, .ref (gb γ + a2))] dL_law_1311 rfl (by decide) (by decide) rfl ?_
    refine j_goto F 18 dL_law_1314 (by decide) ?_
    refine j_lv [(0, .ref b), (1, .ref (gb γ + a1)), (2, .ref (gb γ + a2)), (3, .int (a3 + 5))] [1, 2, 3, 0] rfl ?_
    exact hk18 _ _ h
  · refine j_iconst F 0 dL_law_1153 (by decide) ?_
    exact (law_no h hr.2.1).elim
def b_L_law_1155 (S : SH) (L : Nat) (xs : Nat → Int32) (k18 : (Int32 × Mem) → Option (Int32 × Mem)) (a1 : Nat) (a2 : Nat) (a3 : Int32) (μ : Mem) : Option (Int32 × Mem) :=
 (xI L xs (a3 + 1)).bind fun v168 =>
 (xI L xs (a3 + 2)).bind fun v169 =>
 (xI L xs (a3 + 3)).bind fun v170 =>
 (xI L xs (a3 + 4)).bind fun v171 =>
 (f_X11_set S a1 v168 v169 ((v170.toInt64 <<< ((32 : Int32).toInt64 &&& 63)) ||| (v171.toInt64 &&& 4294967295)) μ).bind fun q172 =>
 (xI L xs (a3 + 1)).bind fun v173 =>
 (xI L xs (a3 + 2)).bind fun v174 =>
 (xI L xs (a3 + 3)).bind fun v175 =>
 (xI L xs (a3 + 4)).bind fun v176 =>
 (f_X12_set S a2 v173 v174 ((v175.toInt64 <<< ((32 : Int32).toInt64 &&& 63)) ||| (v176.toInt64 &&& 4294967295)) q172.2).bind fun q177 =>
 (if q172.1 = q177.1 then
 k18 (a3 + 5, q177.2)
 else
 some (0, q177.2))
set_option maxRecDepth 100000 in
set_option maxHeartbeats 4000000 in
theorem s_L_law_1155 {γ : GE} {p : Program} {l : Launch} {e : Env} {s : State} {m : MethodId} {below : List Frame} {meth : Method} {c : Code} {S : SH} {X : (Int32 × Mem)} {b L : Nat} {xs : Nat → Int32} (F : FX γ p s m #[Value.ref b] meth c cL_law RL 4) (hr : LWX γ s meth b L xs X) (a1 : Nat) (a2 : Nat) (a3 : Int32)  (k18 : (Int32 × Mem) → Option (Int32 × Mem)) (hk18 : ∀ (x18_3 : Int32) (ν : Mem), k18 (x18_3, ν) = some X → JJ γ p l e room_1 s m #[Value.ref b] below meth c 4 108 4635 (lw_Z below #[Value.ref b] s) S ν 18 [(0, .ref b), (1, .ref (gb γ + a1)), (2, .ref (gb γ + a2)), (3, .int x18_3)] [])  (μ : Mem) (h : b_L_law_1155 S L xs k18 a1 a2 a3 μ = some X) : JJ γ p l e room_1 s m #[Value.ref b] below meth c 4 108 4635 (lw_Z below #[Value.ref b] s) S μ 1155 [(0, .ref b), (1, .ref (gb γ + a1)), (2, .ref (gb γ + a2)), (3, .int a3)] [] := by
  unfold b_L_law_1155 at h
  refine j_aload_n F 1 dL_law_1155 rfl ?_
  refine j_aload_n F 0 dL_law_1156 rfl ?_
  refine j_iload_n F 3 dL_law_1157 rfl ?_
  refine j_iconst F 1 dL_law_1158 (by decide) ?_
  refine j_iadd F dL_law_1159 ?_
  refine j_xld F hr.1 dL_law_1160 h (fun v168 h => ?_)
  refine j_aload_n F 0 dL_law_1161 rfl ?_
  refine j_iload_n F 3 dL_law_1162 rfl ?_
  refine j_iconst F 2 dL_law_1163 (by decide) ?_
  refine j_iadd F dL_law_1164 ?_
  refine j_xld F hr.1 dL_law_1165 h (fun v169 h => ?_)
  refine j_aload_n F 0 dL_law_1166 rfl ?_
  refine j_iload_n F 3 dL_law_1167 rfl ?_
  refine j_iconst F 3 dL_law_1168 (by decide) ?_
  refine j_iadd F dL_law_1169 ?_
  refine j_xld F hr.1 dL_law_1170 h (fun v170 h => ?_)
  refine j_i2l F dL_law_1171 ?_
  refine j_bipush F 32 dL_law_1172 (by decide) ?_
  refine j_lshl F dL_law_1174 ?_
  refine j_aload_n F 0 dL_law_1175 rfl ?_
  refine j_iload_n F 3 dL_law_1176 rfl ?_
  refine j_iconst F 4 dL_law_1177 (by decide) ?_
  refine j_iadd F dL_law_1178 ?_
  refine j_xld F hr.1 dL_law_1179 h (fun v171 h => ?_)
  refine j_i2l F dL_law_1180 ?_
  refine j_ldc2 F 4294967295 dL_law_1181 w_1486 ?_
  refine j_land F dL_law_1184 ?_
  refine j_lor F dL_law_1185 ?_
  refine j_cVI F mi_X11_set w_943 (rest := []) h (fun _ g => c_X11_set g) rfl rfl (Nat.le_of_ble_eq_true rfl) ⟨Nat.le_of_ble_eq_true rfl, Nat.le_of_ble_eq_true rfl⟩ ⟨Nat.le_of_ble_eq_true rfl, Nat.le_of_ble_eq_true rfl⟩ dL_law_1186 (fun q172 h => ?_)
  refine j_aload_n F 2 dL_law_1189 rfl ?_
  refine j_aload_n F 0 dL_law_1190 rfl ?_
  refine j_iload_n F 3 dL_law_1191 rfl ?_
  refine j_iconst F 1 dL_law_1192 (by decide) ?_
  refine j_iadd F dL_law_1193 ?_
  refine j_xld F hr.1 dL_law_1194 h (fun v173 h => ?_)
  refine j_aload_n F 0 dL_law_1195 rfl ?_
  refine j_iload_n F 3 dL_law_1196 rfl ?_
  refine j_iconst F 2 dL_law_1197 (by decide) ?_
  refine j_iadd F dL_law_1198 ?_
  refine j_xld F hr.1 dL_law_1199 h (fun v174 h => ?_)
  refine j_aload_n F 0 dL_law_1200 rfl ?_
  refine j_iload_n F 3 dL_law_1201 rfl ?_
  refine j_iconst F 3 dL_law_1202 (by decide) ?_
  refine j_iadd F dL_law_1203 ?_
  refine j_xld F hr.1 dL_law_1204 h (fun v175 h => ?_)
  refine j_i2l F dL_law_1205 ?_
  refine j_bipush F 32 dL_law_1206 (by decide) ?_
  refine j_lshl F dL_law_1208 ?_
  refine j_aload_n F 0 dL_law_1209 rfl ?_
  refine j_iload_n F 3 dL_law_1210 rfl ?_
  refine j_iconst F 4 dL_law_1211 (by decide) ?_
  refine j_iadd F dL_law_1212 ?_
  refine j_xld F hr.1 dL_law_1213 h (fun v176 h => ?_)
  refine j_i2l F dL_law_1214 ?_
  refine j_ldc2 F 4294967295 dL_law_1215 w_1486 ?_
  refine j_land F dL_law_1218 ?_
  refine j_lor F dL_law_1219 ?_
  refine j_cVI F mi_X12_set w_1450 (rest := [.int q172.1]) h (fun _ g => c_X12_set g) rfl rfl (Nat.le_of_ble_eq_true rfl) ⟨Nat.le_of_ble_eq_true rfl, Nat.le_of_ble_eq_true rfl⟩ ⟨Nat.le_of_ble_eq_true rfl, Nat.le_of_ble_eq_true rfl⟩ dL_law_1220 (fun q177 h => ?_)
  refine j_icmpeq F 1311 dL_law_1223 (by decide) h (fun _ h => ?_) (fun _ h => ?_)
  · refine j_iinc F 5 3 [(3, .int (a3 + 5)), (0, .ref b), (1, .ref (gb γ + a1)), (2, .ref (gb γ + a2))] dL_law_1311 rfl (by decide) (by decide) rfl ?_
    refine j_goto F 18 dL_law_1314 (by decide) ?_
    refine j_lv [(0, .ref b), (1, .ref (gb γ + a1)), (2, .ref (gb γ + a2)), (3, .int (a3 + 5))] [1, 2, 3, 0] rfl ?_
    exact hk18 _ _ h
  · refine j_iconst F 0 dL_law_1226 (by decide) ?_
    exact (law_no h hr.2.1).elim
def b_L_law_1228 (S : SH) (L : Nat) (xs : Nat → Int32) (k18 : (Int32 × Mem) → Option (Int32 × Mem)) (a1 : Nat) (a2 : Nat) (a3 : Int32) (μ : Mem) : Option (Int32 × Mem) :=
 (xI L xs (a3 + 1)).bind fun v178 =>
 (xI L xs (a3 + 2)).bind fun v179 =>
 (f_X11_get S a1 v178 v179 μ).bind fun q180 =>
 (xI L xs (a3 + 1)).bind fun v181 =>
 (xI L xs (a3 + 2)).bind fun v182 =>
 (f_X12_get S a2 v181 v182 q180.2).bind fun q183 =>
 (if q180.1 = q183.1 then
 k18 (a3 + 5, q183.2)
 else
 some (0, q183.2))
set_option maxRecDepth 100000 in
set_option maxHeartbeats 4000000 in
theorem s_L_law_1228 {γ : GE} {p : Program} {l : Launch} {e : Env} {s : State} {m : MethodId} {below : List Frame} {meth : Method} {c : Code} {S : SH} {X : (Int32 × Mem)} {b L : Nat} {xs : Nat → Int32} (F : FX γ p s m #[Value.ref b] meth c cL_law RL 4) (hr : LWX γ s meth b L xs X) (a1 : Nat) (a2 : Nat) (a3 : Int32)  (k18 : (Int32 × Mem) → Option (Int32 × Mem)) (hk18 : ∀ (x18_3 : Int32) (ν : Mem), k18 (x18_3, ν) = some X → JJ γ p l e room_1 s m #[Value.ref b] below meth c 4 108 4635 (lw_Z below #[Value.ref b] s) S ν 18 [(0, .ref b), (1, .ref (gb γ + a1)), (2, .ref (gb γ + a2)), (3, .int x18_3)] [])  (μ : Mem) (h : b_L_law_1228 S L xs k18 a1 a2 a3 μ = some X) : JJ γ p l e room_1 s m #[Value.ref b] below meth c 4 108 4635 (lw_Z below #[Value.ref b] s) S μ 1228 [(0, .ref b), (1, .ref (gb γ + a1)), (2, .ref (gb γ + a2)), (3, .int a3)] [] := by
  unfold b_L_law_1228 at h
  refine j_aload_n F 1 dL_law_1228 rfl ?_
  refine j_aload_n F 0 dL_law_1229 rfl ?_
  refine j_iload_n F 3 dL_law_1230 rfl ?_
  refine j_iconst F 1 dL_law_1231 (by decide) ?_
  refine j_iadd F dL_law_1232 ?_
  refine j_xld F hr.1 dL_law_1233 h (fun v178 h => ?_)
  refine j_aload_n F 0 dL_law_1234 rfl ?_
  refine j_iload_n F 3 dL_law_1235 rfl ?_
  refine j_iconst F 2 dL_law_1236 (by decide) ?_
  refine j_iadd F dL_law_1237 ?_
  refine j_xld F hr.1 dL_law_1238 h (fun v179 h => ?_)
  refine j_cVJ F mi_X11_get w_951 (rest := []) h (fun _ g => c_X11_get g) rfl rfl (Nat.le_of_ble_eq_true rfl) ⟨Nat.le_of_ble_eq_true rfl, Nat.le_of_ble_eq_true rfl⟩ ⟨Nat.le_of_ble_eq_true rfl, Nat.le_of_ble_eq_true rfl⟩ dL_law_1239 (fun q180 h => ?_)
  refine j_aload_n F 2 dL_law_1242 rfl ?_
  refine j_aload_n F 0 dL_law_1243 rfl ?_
  refine j_iload_n F 3 dL_law_1244 rfl ?_
  refine j_iconst F 1 dL_law_1245 (by decide) ?_
  refine j_iadd F dL_law_1246 ?_
  refine j_xld F hr.1 dL_law_1247 h (fun v181 h => ?_)
  refine j_aload_n F 0 dL_law_1248 rfl ?_
  refine j_iload_n F 3 dL_law_1249 rfl ?_
  refine j_iconst F 2 dL_law_1250 (by decide) ?_
  refine j_iadd F dL_law_1251 ?_
  refine j_xld F hr.1 dL_law_1252 h (fun v182 h => ?_)
  refine j_cVJ F mi_X12_get w_1454 (rest := [.long q180.1]) h (fun _ g => c_X12_get g) rfl rfl (Nat.le_of_ble_eq_true rfl) ⟨Nat.le_of_ble_eq_true rfl, Nat.le_of_ble_eq_true rfl⟩ ⟨Nat.le_of_ble_eq_true rfl, Nat.le_of_ble_eq_true rfl⟩ dL_law_1253 (fun q183 h => ?_)
  refine j_lcmpeq F 1311 dL_law_1256 dL_law_1257 (by decide) h (fun _ h => ?_) (fun _ h => ?_)
  · refine j_iinc F 5 3 [(3, .int (a3 + 5)), (0, .ref b), (1, .ref (gb γ + a1)), (2, .ref (gb γ + a2))] dL_law_1311 rfl (by decide) (by decide) rfl ?_
    refine j_goto F 18 dL_law_1314 (by decide) ?_
    refine j_lv [(0, .ref b), (1, .ref (gb γ + a1)), (2, .ref (gb γ + a2)), (3, .int (a3 + 5))] [1, 2, 3, 0] rfl ?_
    exact hk18 _ _ h
  · refine j_iconst F 0 dL_law_1260 (by decide) ?_
    exact (law_no h hr.2.1).elim
def b_L_law_1262 (S : SH) (L : Nat) (xs : Nat → Int32) (k18 : (Int32 × Mem) → Option (Int32 × Mem)) (a1 : Nat) (a2 : Nat) (a3 : Int32) (μ : Mem) : Option (Int32 × Mem) :=
 (xI L xs (a3 + 1)).bind fun v184 =>
 (f_X11_count S a1 v184 μ).bind fun q185 =>
 (xI L xs (a3 + 1)).bind fun v186 =>
 (f_X12_count S a2 v186 q185.2).bind fun q187 =>
 (if q185.1 = q187.1 then
 k18 (a3 + 5, q187.2)
 else
 some (0, q187.2))
set_option maxRecDepth 100000 in
set_option maxHeartbeats 4000000 in
theorem s_L_law_1262 {γ : GE} {p : Program} {l : Launch} {e : Env} {s : State} {m : MethodId} {below : List Frame} {meth : Method} {c : Code} {S : SH} {X : (Int32 × Mem)} {b L : Nat} {xs : Nat → Int32} (F : FX γ p s m #[Value.ref b] meth c cL_law RL 4) (hr : LWX γ s meth b L xs X) (a1 : Nat) (a2 : Nat) (a3 : Int32)  (k18 : (Int32 × Mem) → Option (Int32 × Mem)) (hk18 : ∀ (x18_3 : Int32) (ν : Mem), k18 (x18_3, ν) = some X → JJ γ p l e room_1 s m #[Value.ref b] below meth c 4 108 4635 (lw_Z below #[Value.ref b] s) S ν 18 [(0, .ref b), (1, .ref (gb γ + a1)), (2, .ref (gb γ + a2)), (3, .int x18_3)] [])  (μ : Mem) (h : b_L_law_1262 S L xs k18 a1 a2 a3 μ = some X) : JJ γ p l e room_1 s m #[Value.ref b] below meth c 4 108 4635 (lw_Z below #[Value.ref b] s) S μ 1262 [(0, .ref b), (1, .ref (gb γ + a1)), (2, .ref (gb γ + a2)), (3, .int a3)] [] := by
  unfold b_L_law_1262 at h
  refine j_aload_n F 1 dL_law_1262 rfl ?_
  refine j_aload_n F 0 dL_law_1263 rfl ?_
  refine j_iload_n F 3 dL_law_1264 rfl ?_
  refine j_iconst F 1 dL_law_1265 (by decide) ?_
  refine j_iadd F dL_law_1266 ?_
  refine j_xld F hr.1 dL_law_1267 h (fun v184 h => ?_)
  refine j_cVI F mi_X11_count w_955 (rest := []) h (fun _ g => c_X11_count g) rfl rfl (Nat.le_of_ble_eq_true rfl) ⟨Nat.le_of_ble_eq_true rfl, Nat.le_of_ble_eq_true rfl⟩ ⟨Nat.le_of_ble_eq_true rfl, Nat.le_of_ble_eq_true rfl⟩ dL_law_1268 (fun q185 h => ?_)
  refine j_aload_n F 2 dL_law_1271 rfl ?_
  refine j_aload_n F 0 dL_law_1272 rfl ?_
  refine j_iload_n F 3 dL_law_1273 rfl ?_
  refine j_iconst F 1 dL_law_1274 (by decide) ?_
  refine j_iadd F dL_law_1275 ?_
  refine j_xld F hr.1 dL_law_1276 h (fun v186 h => ?_)
  refine j_cVI F mi_X12_count w_1474 (rest := [.int q185.1]) h (fun _ g => c_X12_count g) rfl rfl (Nat.le_of_ble_eq_true rfl) ⟨Nat.le_of_ble_eq_true rfl, Nat.le_of_ble_eq_true rfl⟩ ⟨Nat.le_of_ble_eq_true rfl, Nat.le_of_ble_eq_true rfl⟩ dL_law_1277 (fun q187 h => ?_)
  refine j_icmpeq F 1311 dL_law_1280 (by decide) h (fun _ h => ?_) (fun _ h => ?_)
  · refine j_iinc F 5 3 [(3, .int (a3 + 5)), (0, .ref b), (1, .ref (gb γ + a1)), (2, .ref (gb γ + a2))] dL_law_1311 rfl (by decide) (by decide) rfl ?_
    refine j_goto F 18 dL_law_1314 (by decide) ?_
    refine j_lv [(0, .ref b), (1, .ref (gb γ + a1)), (2, .ref (gb γ + a2)), (3, .int (a3 + 5))] [1, 2, 3, 0] rfl ?_
    exact hk18 _ _ h
  · refine j_iconst F 0 dL_law_1283 (by decide) ?_
    exact (law_no h hr.2.1).elim
def b_L_law_1285 (S : SH) (L : Nat) (xs : Nat → Int32) (k18 : (Int32 × Mem) → Option (Int32 × Mem)) (a1 : Nat) (a2 : Nat) (a3 : Int32) (μ : Mem) : Option (Int32 × Mem) :=
 (f_X11_image S a1 μ).bind fun q188 =>
 (f_X12_image S a2 q188.2).bind fun q189 =>
 (if q188.1 = q189.1 then
 k18 (a3 + 5, q189.2)
 else
 some (0, q189.2))
set_option maxRecDepth 100000 in
set_option maxHeartbeats 4000000 in
theorem s_L_law_1285 {γ : GE} {p : Program} {l : Launch} {e : Env} {s : State} {m : MethodId} {below : List Frame} {meth : Method} {c : Code} {S : SH} {X : (Int32 × Mem)} {b L : Nat} {xs : Nat → Int32} (F : FX γ p s m #[Value.ref b] meth c cL_law RL 4) (hr : LWX γ s meth b L xs X) (a1 : Nat) (a2 : Nat) (a3 : Int32)  (k18 : (Int32 × Mem) → Option (Int32 × Mem)) (hk18 : ∀ (x18_3 : Int32) (ν : Mem), k18 (x18_3, ν) = some X → JJ γ p l e room_1 s m #[Value.ref b] below meth c 4 108 4635 (lw_Z below #[Value.ref b] s) S ν 18 [(0, .ref b), (1, .ref (gb γ + a1)), (2, .ref (gb γ + a2)), (3, .int x18_3)] [])  (μ : Mem) (h : b_L_law_1285 S L xs k18 a1 a2 a3 μ = some X) : JJ γ p l e room_1 s m #[Value.ref b] below meth c 4 108 4635 (lw_Z below #[Value.ref b] s) S μ 1285 [(0, .ref b), (1, .ref (gb γ + a1)), (2, .ref (gb γ + a2)), (3, .int a3)] [] := by
  unfold b_L_law_1285 at h
  refine j_aload_n F 1 dL_law_1285 rfl ?_
  refine j_cVI F mi_X11_image w_959 (rest := []) h (fun _ g => c_X11_image g) rfl rfl (Nat.le_of_ble_eq_true rfl) ⟨Nat.le_of_ble_eq_true rfl, Nat.le_of_ble_eq_true rfl⟩ ⟨Nat.le_of_ble_eq_true rfl, Nat.le_of_ble_eq_true rfl⟩ dL_law_1286 (fun q188 h => ?_)
  refine j_aload_n F 2 dL_law_1289 rfl ?_
  refine j_cVI F mi_X12_image w_1478 (rest := [.int q188.1]) h (fun _ g => c_X12_image g) rfl rfl (Nat.le_of_ble_eq_true rfl) ⟨Nat.le_of_ble_eq_true rfl, Nat.le_of_ble_eq_true rfl⟩ ⟨Nat.le_of_ble_eq_true rfl, Nat.le_of_ble_eq_true rfl⟩ dL_law_1290 (fun q189 h => ?_)
  refine j_icmpeq F 1311 dL_law_1293 (by decide) h (fun _ h => ?_) (fun _ h => ?_)
  · refine j_iinc F 5 3 [(3, .int (a3 + 5)), (0, .ref b), (1, .ref (gb γ + a1)), (2, .ref (gb γ + a2))] dL_law_1311 rfl (by decide) (by decide) rfl ?_
    refine j_goto F 18 dL_law_1314 (by decide) ?_
    refine j_lv [(0, .ref b), (1, .ref (gb γ + a1)), (2, .ref (gb γ + a2)), (3, .int (a3 + 5))] [1, 2, 3, 0] rfl ?_
    exact hk18 _ _ h
  · refine j_iconst F 0 dL_law_1296 (by decide) ?_
    exact (law_no h hr.2.1).elim
def b_L_law_1298 (S : SH) (L : Nat) (xs : Nat → Int32) (k18 : (Int32 × Mem) → Option (Int32 × Mem)) (a1 : Nat) (a2 : Nat) (a3 : Int32) (μ : Mem) : Option (Int32 × Mem) :=
 (f_X11_undo S a1 μ).bind fun q190 =>
 (f_X12_undo S a2 q190.2).bind fun q191 =>
 (if q190.1 = q191.1 then
 k18 (a3 + 5, q191.2)
 else
 some (0, q191.2))
set_option maxRecDepth 100000 in
set_option maxHeartbeats 4000000 in
theorem s_L_law_1298 {γ : GE} {p : Program} {l : Launch} {e : Env} {s : State} {m : MethodId} {below : List Frame} {meth : Method} {c : Code} {S : SH} {X : (Int32 × Mem)} {b L : Nat} {xs : Nat → Int32} (F : FX γ p s m #[Value.ref b] meth c cL_law RL 4) (hr : LWX γ s meth b L xs X) (a1 : Nat) (a2 : Nat) (a3 : Int32)  (k18 : (Int32 × Mem) → Option (Int32 × Mem)) (hk18 : ∀ (x18_3 : Int32) (ν : Mem), k18 (x18_3, ν) = some X → JJ γ p l e room_1 s m #[Value.ref b] below meth c 4 108 4635 (lw_Z below #[Value.ref b] s) S ν 18 [(0, .ref b), (1, .ref (gb γ + a1)), (2, .ref (gb γ + a2)), (3, .int x18_3)] [])  (μ : Mem) (h : b_L_law_1298 S L xs k18 a1 a2 a3 μ = some X) : JJ γ p l e room_1 s m #[Value.ref b] below meth c 4 108 4635 (lw_Z below #[Value.ref b] s) S μ 1298 [(0, .ref b), (1, .ref (gb γ + a1)), (2, .ref (gb γ + a2)), (3, .int a3)] [] := by
  unfold b_L_law_1298 at h
  refine j_aload_n F 1 dL_law_1298 rfl ?_
  refine j_cVI F mi_X11_undo w_963 (rest := []) h (fun _ g => c_X11_undo g) rfl rfl (Nat.le_of_ble_eq_true rfl) ⟨Nat.le_of_ble_eq_true rfl, Nat.le_of_ble_eq_true rfl⟩ ⟨Nat.le_of_ble_eq_true rfl, Nat.le_of_ble_eq_true rfl⟩ dL_law_1299 (fun q190 h => ?_)
  refine j_aload_n F 2 dL_law_1302 rfl ?_
  refine j_cVI F mi_X12_undo w_1482 (rest := [.int q190.1]) h (fun _ g => c_X12_undo g) rfl rfl (Nat.le_of_ble_eq_true rfl) ⟨Nat.le_of_ble_eq_true rfl, Nat.le_of_ble_eq_true rfl⟩ ⟨Nat.le_of_ble_eq_true rfl, Nat.le_of_ble_eq_true rfl⟩ dL_law_1303 (fun q191 h => ?_)
  refine j_icmpeq F 1311 dL_law_1306 (by decide) h (fun _ h => ?_) (fun _ h => ?_)
  · refine j_iinc F 5 3 [(3, .int (a3 + 5)), (0, .ref b), (1, .ref (gb γ + a1)), (2, .ref (gb γ + a2))] dL_law_1311 rfl (by decide) (by decide) rfl ?_
    refine j_goto F 18 dL_law_1314 (by decide) ?_
    refine j_lv [(0, .ref b), (1, .ref (gb γ + a1)), (2, .ref (gb γ + a2)), (3, .int (a3 + 5))] [1, 2, 3, 0] rfl ?_
    exact hk18 _ _ h
  · refine j_iconst F 0 dL_law_1309 (by decide) ?_
    exact (law_no h hr.2.1).elim
def l_L_law_18 (S : SH) (L : Nat) (xs : Nat → Int32) (a1 : Nat) (a2 : Nat) (k18 : (Int32 × Mem) → Option (Int32 × Mem)) (x : (Int32 × Mem)) : Option (Int32 × Mem) :=
 (if ((Int32.ofNat L) - 5) < x.1 then
 some (1, x.2)
 else
 (xI L xs x.1).bind fun v1 =>
 (some (v1 &&& 63)).bind fun y2 =>
 (if y2 = 0 then
 b_L_law_208 S L xs k18 a1 a2 x.1 x.2
 else if y2 = 1 then
 b_L_law_261 S L xs k18 a1 a2 x.1 x.2
 else if y2 = 2 then
 b_L_law_330 S L xs k18 a1 a2 x.1 x.2
 else if y2 = 3 then
 b_L_law_363 S L xs k18 a1 a2 x.1 x.2
 else if y2 = 4 then
 b_L_law_396 S L xs k18 a1 a2 x.1 x.2
 else if y2 = 5 then
 b_L_law_419 S L xs k18 a1 a2 x.1 x.2
 else if y2 = 6 then
 b_L_law_453 S L xs k18 a1 a2 x.1 x.2
 else if y2 = 7 then
 b_L_law_496 S L xs k18 a1 a2 x.1 x.2
 else if y2 = 8 then
 b_L_law_529 S L xs k18 a1 a2 x.1 x.2
 else if y2 = 9 then
 b_L_law_562 S L xs k18 a1 a2 x.1 x.2
 else if y2 = 10 then
 b_L_law_575 S L xs k18 a1 a2 x.1 x.2
 else if y2 = 11 then
 b_L_law_609 S L xs k18 a1 a2 x.1 x.2
 else if y2 = 12 then
 b_L_law_643 S L xs k18 a1 a2 x.1 x.2
 else if y2 = 13 then
 b_L_law_677 S L xs k18 a1 a2 x.1 x.2
 else if y2 = 14 then
 b_L_law_711 S L xs k18 a1 a2 x.1 x.2
 else if y2 = 15 then
 b_L_law_724 S L xs k18 a1 a2 x.1 x.2
 else if y2 = 16 then
 b_L_law_747 S L xs k18 a1 a2 x.1 x.2
 else if y2 = 17 then
 b_L_law_760 S L xs k18 a1 a2 x.1 x.2
 else if y2 = 18 then
 b_L_law_773 S L xs k18 a1 a2 x.1 x.2
 else if y2 = 19 then
 b_L_law_796 S L xs k18 a1 a2 x.1 x.2
 else if y2 = 20 then
 b_L_law_819 S L xs k18 a1 a2 x.1 x.2
 else if y2 = 21 then
 b_L_law_852 S L xs k18 a1 a2 x.1 x.2
 else if y2 = 22 then
 b_L_law_875 S L xs k18 a1 a2 x.1 x.2
 else if y2 = 23 then
 b_L_law_898 S L xs k18 a1 a2 x.1 x.2
 else if y2 = 24 then
 b_L_law_911 S L xs k18 a1 a2 x.1 x.2
 else if y2 = 25 then
 b_L_law_924 S L xs k18 a1 a2 x.1 x.2
 else if y2 = 26 then
 b_L_law_947 S L xs k18 a1 a2 x.1 x.2
 else if y2 = 27 then
 b_L_law_961 S L xs k18 a1 a2 x.1 x.2
 else if y2 = 28 then
 b_L_law_974 S L xs k18 a1 a2 x.1 x.2
 else if y2 = 29 then
 b_L_law_987 S L xs k18 a1 a2 x.1 x.2
 else if y2 = 30 then
 b_L_law_1030 S L xs k18 a1 a2 x.1 x.2
 else if y2 = 31 then
 b_L_law_1063 S L xs k18 a1 a2 x.1 x.2
 else if y2 = 32 then
 b_L_law_1076 S L xs k18 a1 a2 x.1 x.2
 else if y2 = 33 then
 b_L_law_1109 S L xs k18 a1 a2 x.1 x.2
 else if y2 = 34 then
 b_L_law_1122 S L xs k18 a1 a2 x.1 x.2
 else if y2 = 35 then
 b_L_law_1155 S L xs k18 a1 a2 x.1 x.2
 else if y2 = 36 then
 b_L_law_1228 S L xs k18 a1 a2 x.1 x.2
 else if y2 = 37 then
 b_L_law_1262 S L xs k18 a1 a2 x.1 x.2
 else if y2 = 38 then
 b_L_law_1285 S L xs k18 a1 a2 x.1 x.2
 else if y2 = 39 then
 b_L_law_1298 S L xs k18 a1 a2 x.1 x.2
 else 
 k18 (x.1 + 5, x.2)))
set_option maxRecDepth 100000 in
set_option maxHeartbeats 4000000 in
theorem t_L_law_18 {γ : GE} {p : Program} {l : Launch} {e : Env} {s : State} {m : MethodId} {below : List Frame} {meth : Method} {c : Code} {S : SH} {X : (Int32 × Mem)} {b L : Nat} {xs : Nat → Int32} (F : FX γ p s m #[Value.ref b] meth c cL_law RL 4) (hr : LWX γ s meth b L xs X) (a1 : Nat) (a2 : Nat) (k18 : (Int32 × Mem) → Option (Int32 × Mem)) (hk18 : ∀ (x18_3 : Int32) (ν : Mem), k18 (x18_3, ν) = some X → JJ γ p l e room_1 s m #[Value.ref b] below meth c 4 108 4635 (lw_Z below #[Value.ref b] s) S ν 18 [(0, .ref b), (1, .ref (gb γ + a1)), (2, .ref (gb γ + a2)), (3, .int x18_3)] []) (x : (Int32 × Mem)) (h : l_L_law_18 S L xs a1 a2 k18 x = some X) : JJ γ p l e room_1 s m #[Value.ref b] below meth c 4 108 4635 (lw_Z below #[Value.ref b] s) S x.2 18 [(0, .ref b), (1, .ref (gb γ + a1)), (2, .ref (gb γ + a2)), (3, .int x.1)] [] := by
  unfold l_L_law_18 at h
  refine j_iload_n F 3 dL_law_18 rfl ?_
  refine j_aload_n F 0 dL_law_19 rfl ?_
  refine j_xlen F hr.1 dL_law_20 ?_
  refine j_iconst F 5 dL_law_21 (by decide) ?_
  refine j_isub F dL_law_22 ?_
  refine j_icmpgt F 1317 dL_law_23 (by decide) h (fun _ h => ?_) (fun _ h => ?_)
  · refine j_iconst F 1 dL_law_1317 (by decide) ?_
    exact j_lawT F hr dL_law_1318
  · refine j_aload_n F 0 dL_law_26 rfl ?_
    refine j_iload_n F 3 dL_law_27 rfl ?_
    refine j_xld F hr.1 dL_law_28 h (fun v1 h => ?_)
    refine j_bipush F 63 dL_law_29 (by decide) ?_
    refine j_iand F dL_law_31 ?_
    refine j_nmI h (fun y2 h => ?_)
    by_cases e0 : y2 = 0
    · rw [if_pos e0] at h
      refine j_tin F (off := 176) 208 dL_law_32 (by rw [e0]; decide) (by rw [e0]; decide) (by rw [e0]; rfl) (by decide) ?_
      exact s_L_law_208 F hr _ _ _ _ hk18 _ h
    rw [if_neg e0] at h
    by_cases e1 : y2 = 1
    · rw [if_pos e1] at h
      refine j_tin F (off := 229) 261 dL_law_32 (by rw [e1]; decide) (by rw [e1]; decide) (by rw [e1]; rfl) (by decide) ?_
      exact s_L_law_261 F hr _ _ _ _ hk18 _ h
    rw [if_neg e1] at h
    by_cases e2 : y2 = 2
    · rw [if_pos e2] at h
      refine j_tin F (off := 298) 330 dL_law_32 (by rw [e2]; decide) (by rw [e2]; decide) (by rw [e2]; rfl) (by decide) ?_
      exact s_L_law_330 F hr _ _ _ _ hk18 _ h
    rw [if_neg e2] at h
    by_cases e3 : y2 = 3
    · rw [if_pos e3] at h
      refine j_tin F (off := 331) 363 dL_law_32 (by rw [e3]; decide) (by rw [e3]; decide) (by rw [e3]; rfl) (by decide) ?_
      exact s_L_law_363 F hr _ _ _ _ hk18 _ h
    rw [if_neg e3] at h
    by_cases e4 : y2 = 4
    · rw [if_pos e4] at h
      refine j_tin F (off := 364) 396 dL_law_32 (by rw [e4]; decide) (by rw [e4]; decide) (by rw [e4]; rfl) (by decide) ?_
      exact s_L_law_396 F hr _ _ _ _ hk18 _ h
    rw [if_neg e4] at h
    by_cases e5 : y2 = 5
    · rw [if_pos e5] at h
      refine j_tin F (off := 387) 419 dL_law_32 (by rw [e5]; decide) (by rw [e5]; decide) (by rw [e5]; rfl) (by decide) ?_
      exact s_L_law_419 F hr _ _ _ _ hk18 _ h
    rw [if_neg e5] at h
    by_cases e6 : y2 = 6
    · rw [if_pos e6] at h
      refine j_tin F (off := 421) 453 dL_law_32 (by rw [e6]; decide) (by rw [e6]; decide) (by rw [e6]; rfl) (by decide) ?_
      exact s_L_law_453 F hr _ _ _ _ hk18 _ h
    rw [if_neg e6] at h
    by_cases e7 : y2 = 7
    · rw [if_pos e7] at h
      refine j_tin F (off := 464) 496 dL_law_32 (by rw [e7]; decide) (by rw [e7]; decide) (by rw [e7]; rfl) (by decide) ?_
      exact s_L_law_496 F hr _ _ _ _ hk18 _ h
    rw [if_neg e7] at h
    by_cases e8 : y2 = 8
    · rw [if_pos e8] at h
      refine j_tin F (off := 497) 529 dL_law_32 (by rw [e8]; decide) (by rw [e8]; decide) (by rw [e8]; rfl) (by decide) ?_
      exact s_L_law_529 F hr _ _ _ _ hk18 _ h
    rw [if_neg e8] at h
    by_cases e9 : y2 = 9
    · rw [if_pos e9] at h
      refine j_tin F (off := 530) 562 dL_law_32 (by rw [e9]; decide) (by rw [e9]; decide) (by rw [e9]; rfl) (by decide) ?_
      exact s_L_law_562 F hr _ _ _ _ hk18 _ h
    rw [if_neg e9] at h
    by_cases e10 : y2 = 10
    · rw [if_pos e10] at h
      refine j_tin F (off := 543) 575 dL_law_32 (by rw [e10]; decide) (by rw [e10]; decide) (by rw [e10]; rfl) (by decide) ?_
      exact s_L_law_575 F hr _ _ _ _ hk18 _ h
    rw [if_neg e10] at h
    by_cases e11 : y2 = 11
    · rw [if_pos e11] at h
      refine j_tin F (off := 577) 609 dL_law_32 (by rw [e11]; decide) (by rw [e11]; decide) (by rw [e11]; rfl) (by decide) ?_
      exact s_L_law_609 F hr _ _ _ _ hk18 _ h
    rw [if_neg e11] at h
    by_cases e12 : y2 = 12
    · rw [if_pos e12] at h
      refine j_tin F (off := 611) 643 dL_law_32 (by rw [e12]; decide) (by rw [e12]; decide) (by rw [e12]; rfl) (by decide) ?_
      exact s_L_law_643 F hr _ _ _ _ hk18 _ h
    rw [if_neg e12] at h
    by_cases e13 : y2 = 13
    · rw [if_pos e13] at h
      refine j_tin F (off := 645) 677 dL_law_32 (by rw [e13]; decide) (by rw [e13]; decide) (by rw [e13]; rfl) (by decide) ?_
      exact s_L_law_677 F hr _ _ _ _ hk18 _ h
    rw [if_neg e13] at h
    by_cases e14 : y2 = 14
    · rw [if_pos e14] at h
      refine j_tin F (off := 679) 711 dL_law_32 (by rw [e14]; decide) (by rw [e14]; decide) (by rw [e14]; rfl) (by decide) ?_
      exact s_L_law_711 F hr _ _ _ _ hk18 _ h
    rw [if_neg e14] at h
    by_cases e15 : y2 = 15
    · rw [if_pos e15] at h
      refine j_tin F (off := 692) 724 dL_law_32 (by rw [e15]; decide) (by rw [e15]; decide) (by rw [e15]; rfl) (by decide) ?_
      exact s_L_law_724 F hr _ _ _ _ hk18 _ h
    rw [if_neg e15] at h
    by_cases e16 : y2 = 16
    · rw [if_pos e16] at h
      refine j_tin F (off := 715) 747 dL_law_32 (by rw [e16]; decide) (by rw [e16]; decide) (by rw [e16]; rfl) (by decide) ?_
      exact s_L_law_747 F hr _ _ _ _ hk18 _ h
    rw [if_neg e16] at h
    by_cases e17 : y2 = 17
    · rw [if_pos e17] at h
      refine j_tin F (off := 728) 760 dL_law_32 (by rw [e17]; decide) (by rw [e17]; decide) (by rw [e17]; rfl) (by decide) ?_
      exact s_L_law_760 F hr _ _ _ _ hk18 _ h
    rw [if_neg e17] at h
    by_cases e18 : y2 = 18
    · rw [if_pos e18] at h
      refine j_tin F (off := 741) 773 dL_law_32 (by rw [e18]; decide) (by rw [e18]; decide) (by rw [e18]; rfl) (by decide) ?_
      exact s_L_law_773 F hr _ _ _ _ hk18 _ h
    rw [if_neg e18] at h
    by_cases e19 : y2 = 19
    · rw [if_pos e19] at h
      refine j_tin F (off := 764) 796 dL_law_32 (by rw [e19]; decide) (by rw [e19]; decide) (by rw [e19]; rfl) (by decide) ?_
      exact s_L_law_796 F hr _ _ _ _ hk18 _ h
    rw [if_neg e19] at h
    by_cases e20 : y2 = 20
    · rw [if_pos e20] at h
      refine j_tin F (off := 787) 819 dL_law_32 (by rw [e20]; decide) (by rw [e20]; decide) (by rw [e20]; rfl) (by decide) ?_
      exact s_L_law_819 F hr _ _ _ _ hk18 _ h
    rw [if_neg e20] at h
    by_cases e21 : y2 = 21
    · rw [if_pos e21] at h
      refine j_tin F (off := 820) 852 dL_law_32 (by rw [e21]; decide) (by rw [e21]; decide) (by rw [e21]; rfl) (by decide) ?_
      exact s_L_law_852 F hr _ _ _ _ hk18 _ h
    rw [if_neg e21] at h
    by_cases e22 : y2 = 22
    · rw [if_pos e22] at h
      refine j_tin F (off := 843) 875 dL_law_32 (by rw [e22]; decide) (by rw [e22]; decide) (by rw [e22]; rfl) (by decide) ?_
      exact s_L_law_875 F hr _ _ _ _ hk18 _ h
    rw [if_neg e22] at h
    by_cases e23 : y2 = 23
    · rw [if_pos e23] at h
      refine j_tin F (off := 866) 898 dL_law_32 (by rw [e23]; decide) (by rw [e23]; decide) (by rw [e23]; rfl) (by decide) ?_
      exact s_L_law_898 F hr _ _ _ _ hk18 _ h
    rw [if_neg e23] at h
    by_cases e24 : y2 = 24
    · rw [if_pos e24] at h
      refine j_tin F (off := 879) 911 dL_law_32 (by rw [e24]; decide) (by rw [e24]; decide) (by rw [e24]; rfl) (by decide) ?_
      exact s_L_law_911 F hr _ _ _ _ hk18 _ h
    rw [if_neg e24] at h
    by_cases e25 : y2 = 25
    · rw [if_pos e25] at h
      refine j_tin F (off := 892) 924 dL_law_32 (by rw [e25]; decide) (by rw [e25]; decide) (by rw [e25]; rfl) (by decide) ?_
      exact s_L_law_924 F hr _ _ _ _ hk18 _ h
    rw [if_neg e25] at h
    by_cases e26 : y2 = 26
    · rw [if_pos e26] at h
      refine j_tin F (off := 915) 947 dL_law_32 (by rw [e26]; decide) (by rw [e26]; decide) (by rw [e26]; rfl) (by decide) ?_
      exact s_L_law_947 F hr _ _ _ _ hk18 _ h
    rw [if_neg e26] at h
    by_cases e27 : y2 = 27
    · rw [if_pos e27] at h
      refine j_tin F (off := 929) 961 dL_law_32 (by rw [e27]; decide) (by rw [e27]; decide) (by rw [e27]; rfl) (by decide) ?_
      exact s_L_law_961 F hr _ _ _ _ hk18 _ h
    rw [if_neg e27] at h
    by_cases e28 : y2 = 28
    · rw [if_pos e28] at h
      refine j_tin F (off := 942) 974 dL_law_32 (by rw [e28]; decide) (by rw [e28]; decide) (by rw [e28]; rfl) (by decide) ?_
      exact s_L_law_974 F hr _ _ _ _ hk18 _ h
    rw [if_neg e28] at h
    by_cases e29 : y2 = 29
    · rw [if_pos e29] at h
      refine j_tin F (off := 955) 987 dL_law_32 (by rw [e29]; decide) (by rw [e29]; decide) (by rw [e29]; rfl) (by decide) ?_
      exact s_L_law_987 F hr _ _ _ _ hk18 _ h
    rw [if_neg e29] at h
    by_cases e30 : y2 = 30
    · rw [if_pos e30] at h
      refine j_tin F (off := 998) 1030 dL_law_32 (by rw [e30]; decide) (by rw [e30]; decide) (by rw [e30]; rfl) (by decide) ?_
      exact s_L_law_1030 F hr _ _ _ _ hk18 _ h
    rw [if_neg e30] at h
    by_cases e31 : y2 = 31
    · rw [if_pos e31] at h
      refine j_tin F (off := 1031) 1063 dL_law_32 (by rw [e31]; decide) (by rw [e31]; decide) (by rw [e31]; rfl) (by decide) ?_
      exact s_L_law_1063 F hr _ _ _ _ hk18 _ h
    rw [if_neg e31] at h
    by_cases e32 : y2 = 32
    · rw [if_pos e32] at h
      refine j_tin F (off := 1044) 1076 dL_law_32 (by rw [e32]; decide) (by rw [e32]; decide) (by rw [e32]; rfl) (by decide) ?_
      exact s_L_law_1076 F hr _ _ _ _ hk18 _ h
    rw [if_neg e32] at h
    by_cases e33 : y2 = 33
    · rw [if_pos e33] at h
      refine j_tin F (off := 1077) 1109 dL_law_32 (by rw [e33]; decide) (by rw [e33]; decide) (by rw [e33]; rfl) (by decide) ?_
      exact s_L_law_1109 F hr _ _ _ _ hk18 _ h
    rw [if_neg e33] at h
    by_cases e34 : y2 = 34
    · rw [if_pos e34] at h
      refine j_tin F (off := 1090) 1122 dL_law_32 (by rw [e34]; decide) (by rw [e34]; decide) (by rw [e34]; rfl) (by decide) ?_
      exact s_L_law_1122 F hr _ _ _ _ hk18 _ h
    rw [if_neg e34] at h
    by_cases e35 : y2 = 35
    · rw [if_pos e35] at h
      refine j_tin F (off := 1123) 1155 dL_law_32 (by rw [e35]; decide) (by rw [e35]; decide) (by rw [e35]; rfl) (by decide) ?_
      exact s_L_law_1155 F hr _ _ _ _ hk18 _ h
    rw [if_neg e35] at h
    by_cases e36 : y2 = 36
    · rw [if_pos e36] at h
      refine j_tin F (off := 1196) 1228 dL_law_32 (by rw [e36]; decide) (by rw [e36]; decide) (by rw [e36]; rfl) (by decide) ?_
      exact s_L_law_1228 F hr _ _ _ _ hk18 _ h
    rw [if_neg e36] at h
    by_cases e37 : y2 = 37
    · rw [if_pos e37] at h
      refine j_tin F (off := 1230) 1262 dL_law_32 (by rw [e37]; decide) (by rw [e37]; decide) (by rw [e37]; rfl) (by decide) ?_
      exact s_L_law_1262 F hr _ _ _ _ hk18 _ h
    rw [if_neg e37] at h
    by_cases e38 : y2 = 38
    · rw [if_pos e38] at h
      refine j_tin F (off := 1253) 1285 dL_law_32 (by rw [e38]; decide) (by rw [e38]; decide) (by rw [e38]; rfl) (by decide) ?_
      exact s_L_law_1285 F hr _ _ _ _ hk18 _ h
    rw [if_neg e38] at h
    by_cases e39 : y2 = 39
    · rw [if_pos e39] at h
      refine j_tin F (off := 1266) 1298 dL_law_32 (by rw [e39]; decide) (by rw [e39]; decide) (by rw [e39]; rfl) (by decide) ?_
      exact s_L_law_1298 F hr _ _ _ _ hk18 _ h
    rw [if_neg e39] at h
    have g0 : (y2).toInt ≠ (0 : Int) := fun q => e0 (Int32.toInt_inj.mp (q.trans (by decide)))
    have g1 : (y2).toInt ≠ (1 : Int) := fun q => e1 (Int32.toInt_inj.mp (q.trans (by decide)))
    have g2 : (y2).toInt ≠ (2 : Int) := fun q => e2 (Int32.toInt_inj.mp (q.trans (by decide)))
    have g3 : (y2).toInt ≠ (3 : Int) := fun q => e3 (Int32.toInt_inj.mp (q.trans (by decide)))
    have g4 : (y2).toInt ≠ (4 : Int) := fun q => e4 (Int32.toInt_inj.mp (q.trans (by decide)))
    have g5 : (y2).toInt ≠ (5 : Int) := fun q => e5 (Int32.toInt_inj.mp (q.trans (by decide)))
    have g6 : (y2).toInt ≠ (6 : Int) := fun q => e6 (Int32.toInt_inj.mp (q.trans (by decide)))
    have g7 : (y2).toInt ≠ (7 : Int) := fun q => e7 (Int32.toInt_inj.mp (q.trans (by decide)))
    have g8 : (y2).toInt ≠ (8 : Int) := fun q => e8 (Int32.toInt_inj.mp (q.trans (by decide)))
    have g9 : (y2).toInt ≠ (9 : Int) := fun q => e9 (Int32.toInt_inj.mp (q.trans (by decide)))
    have g10 : (y2).toInt ≠ (10 : Int) := fun q => e10 (Int32.toInt_inj.mp (q.trans (by decide)))
    have g11 : (y2).toInt ≠ (11 : Int) := fun q => e11 (Int32.toInt_inj.mp (q.trans (by decide)))
    have g12 : (y2).toInt ≠ (12 : Int) := fun q => e12 (Int32.toInt_inj.mp (q.trans (by decide)))
    have g13 : (y2).toInt ≠ (13 : Int) := fun q => e13 (Int32.toInt_inj.mp (q.trans (by decide)))
    have g14 : (y2).toInt ≠ (14 : Int) := fun q => e14 (Int32.toInt_inj.mp (q.trans (by decide)))
    have g15 : (y2).toInt ≠ (15 : Int) := fun q => e15 (Int32.toInt_inj.mp (q.trans (by decide)))
    have g16 : (y2).toInt ≠ (16 : Int) := fun q => e16 (Int32.toInt_inj.mp (q.trans (by decide)))
    have g17 : (y2).toInt ≠ (17 : Int) := fun q => e17 (Int32.toInt_inj.mp (q.trans (by decide)))
    have g18 : (y2).toInt ≠ (18 : Int) := fun q => e18 (Int32.toInt_inj.mp (q.trans (by decide)))
    have g19 : (y2).toInt ≠ (19 : Int) := fun q => e19 (Int32.toInt_inj.mp (q.trans (by decide)))
    have g20 : (y2).toInt ≠ (20 : Int) := fun q => e20 (Int32.toInt_inj.mp (q.trans (by decide)))
    have g21 : (y2).toInt ≠ (21 : Int) := fun q => e21 (Int32.toInt_inj.mp (q.trans (by decide)))
    have g22 : (y2).toInt ≠ (22 : Int) := fun q => e22 (Int32.toInt_inj.mp (q.trans (by decide)))
    have g23 : (y2).toInt ≠ (23 : Int) := fun q => e23 (Int32.toInt_inj.mp (q.trans (by decide)))
    have g24 : (y2).toInt ≠ (24 : Int) := fun q => e24 (Int32.toInt_inj.mp (q.trans (by decide)))
    have g25 : (y2).toInt ≠ (25 : Int) := fun q => e25 (Int32.toInt_inj.mp (q.trans (by decide)))
    have g26 : (y2).toInt ≠ (26 : Int) := fun q => e26 (Int32.toInt_inj.mp (q.trans (by decide)))
    have g27 : (y2).toInt ≠ (27 : Int) := fun q => e27 (Int32.toInt_inj.mp (q.trans (by decide)))
    have g28 : (y2).toInt ≠ (28 : Int) := fun q => e28 (Int32.toInt_inj.mp (q.trans (by decide)))
    have g29 : (y2).toInt ≠ (29 : Int) := fun q => e29 (Int32.toInt_inj.mp (q.trans (by decide)))
    have g30 : (y2).toInt ≠ (30 : Int) := fun q => e30 (Int32.toInt_inj.mp (q.trans (by decide)))
    have g31 : (y2).toInt ≠ (31 : Int) := fun q => e31 (Int32.toInt_inj.mp (q.trans (by decide)))
    have g32 : (y2).toInt ≠ (32 : Int) := fun q => e32 (Int32.toInt_inj.mp (q.trans (by decide)))
    have g33 : (y2).toInt ≠ (33 : Int) := fun q => e33 (Int32.toInt_inj.mp (q.trans (by decide)))
    have g34 : (y2).toInt ≠ (34 : Int) := fun q => e34 (Int32.toInt_inj.mp (q.trans (by decide)))
    have g35 : (y2).toInt ≠ (35 : Int) := fun q => e35 (Int32.toInt_inj.mp (q.trans (by decide)))
    have g36 : (y2).toInt ≠ (36 : Int) := fun q => e36 (Int32.toInt_inj.mp (q.trans (by decide)))
    have g37 : (y2).toInt ≠ (37 : Int) := fun q => e37 (Int32.toInt_inj.mp (q.trans (by decide)))
    have g38 : (y2).toInt ≠ (38 : Int) := fun q => e38 (Int32.toInt_inj.mp (q.trans (by decide)))
    have g39 : (y2).toInt ≠ (39 : Int) := fun q => e39 (Int32.toInt_inj.mp (q.trans (by decide)))
    refine j_tout F 1311 dL_law_32 (by omega) (by decide) ?_
    refine j_iinc F 5 3 [(3, .int (x.1 + 5)), (0, .ref b), (1, .ref (gb γ + a1)), (2, .ref (gb γ + a2))] dL_law_1311 rfl (by decide) (by decide) rfl ?_
    refine j_goto F 18 dL_law_1314 (by decide) ?_
    refine j_lv [(0, .ref b), (1, .ref (gb γ + a1)), (2, .ref (gb γ + a2)), (3, .int (x.1 + 5))] [1, 2, 3, 0] rfl ?_
    exact hk18 _ _ h
theorem s_L_law_18 {γ : GE} {p : Program} {l : Launch} {e : Env} {s : State} {m : MethodId} {below : List Frame} {meth : Method} {c : Code} {S : SH} {X : (Int32 × Mem)} {b L : Nat} {xs : Nat → Int32} (F : FX γ p s m #[Value.ref b] meth c cL_law RL 4) (hr : LWX γ s meth b L xs X) (a1 : Nat) (a2 : Nat) (x18_3 : Int32) (ν : Mem) (h : lpN (l_L_law_18 S L xs a1 a2) fu (x18_3, ν) = some X) : JJ γ p l e room_1 s m #[Value.ref b] below meth c 4 108 4635 (lw_Z below #[Value.ref b] s) S ν 18 [(0, .ref b), (1, .ref (gb γ + a1)), (2, .ref (gb γ + a2)), (3, .int x18_3)] [] :=
 lpN_sound (fun x => JJ γ p l e room_1 s m #[Value.ref b] below meth c 4 108 4635 (lw_Z below #[Value.ref b] s) S x.2 18 [(0, .ref b), (1, .ref (gb γ + a1)), (2, .ref (gb γ + a2)), (3, .int x.1)] []) (fun k18 hk18 x h => t_L_law_18 F hr a1 a2 k18 (fun x18_3 ν h => hk18 (x18_3, ν) h) x h) fu (x18_3, ν) h
