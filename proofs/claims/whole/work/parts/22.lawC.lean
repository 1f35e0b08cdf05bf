set_option maxRecDepth 100000 in
set_option maxHeartbeats 4000000 in
theorem law_c0 {p : Program} {l : Launch} {e : Env} {s : State} {m : MethodId} {below : List Frame} {meth : Method} {c : Code} {D : va_G} {κ : Nat → ClassId} {ρ : Nat → Nat} {A : Nat → Prop} {b L : Nat} {xs : Nat → Int32} {t : Nat} {i0 : Int32} {u0 t0 : wSt} {v0 : Int64} {H : Heap} {locs : List Loc} {ls : Array Slot} {q : (Int32 × wSt × wSt × Int64) ⊕ Int32} {B : Int32 × wSt × wSt × Int64 → Option Int32} (hC : wCx p m c cL_law 7 s #[Value.ref b] RL D κ 0) (hC1 : wCx p m c cL_law 7 s #[Value.ref b] RL D κ 1) (hr : meth.sig.returnType = ret) (hlk : meth.locks = false) (hX : va_X b L xs s s.heap) (hbl : b < s.heap.size) (hbA : ¬ A b) (hG : wGst p l e s m below meth c b D κ ρ A) (hq : wJP q B 1) (hcs : 120 + 2 * t ≤ room_1.cells ∧ 6245 + 16 * t ≤ room_1.slots) (hcs2 : 120 + 2 * t + 2 ≤ 1146 ∧ 6245 + 16 * t + 16 ≤ 14449) (hcs3 : 120 + 2 * t + 2 ≤ room_1.cells ∧ 6245 + 16 * t + 16 ≤ room_1.slots) (hE : ∀ (u1 t1 : wSt) (v1 : Int64) (H : Heap) (locs : List Loc) (ls : Array Slot), B (i0 + (6 : Int32), u1, t1, v1) = some 1 → wH2 D κ ρ A s.heap H locs u1 t1 v1 → lv_has ls 7 [(0, .ref b), (1, .ref (ρ 0)), (2, .ref (ρ 79)), (3, .ref (ρ 119)), (4, .int i0)] → W p l e room_1 s m #[Value.ref b] below meth c H locs (120 + 2 * t + 2) (6245 + 16 * t + 16) (lw_Z below #[Value.ref b] s) (F0 m 1556 ls [])) (hF : F_law_c0 L xs i0 u0 t0 v0 = some q) (h2 : wH2 D κ ρ A s.heap H locs u0 t0 v0) (hl : lv_has ls 7 [(0, .ref b), (1, .ref (ρ 0)), (2, .ref (ρ 79)), (3, .ref (ρ 119)), (4, .int i0)]) : W p l e room_1 s m #[Value.ref b] below meth c H locs (120 + 2 * t) (6245 + 16 * t) (lw_Z below #[Value.ref b] s) (F0 m 228 ls []) := by
  have hx := hC.1.1
  have hb := hC.1.2.1
  unfold F_law_c0 at hF
  refine lv_aload_n hx hb dL_law_228 rfl (lv_at hl 1 rfl) ?_
  refine lv_aload_n hx hb dL_law_229 rfl (lv_at hl 0 rfl) ?_
  refine lv_iload hx hb dL_law_230 (lv_at hl 4 rfl) ?_
  refine lv_iconst hx hb dL_law_232 k_iconst_1 ?_
  refine lv_iadd hx hb dL_law_233 ?_
  refine wx_sld hx hb hX hbl hbA h2 dL_law_234 hF (fun j1 hF => ?_)
  refine lv_aload_n hx hb dL_law_235 rfl (lv_at hl 0 rfl) ?_
  refine lv_iload hx hb dL_law_236 (lv_at hl 4 rfl) ?_
  refine lv_iconst hx hb dL_law_238 k_iconst_2 ?_
  refine lv_iadd hx hb dL_law_239 ?_
  refine wx_sld hx hb hX hbl hbA h2 dL_law_240 hF (fun j2 hF => ?_)
  refine lv_aload_n hx hb dL_law_241 rfl (lv_at hl 0 rfl) ?_
  refine lv_iload hx hb dL_law_242 (lv_at hl 4 rfl) ?_
  refine lv_iconst hx hb dL_law_244 k_iconst_3 ?_
  refine lv_iadd hx hb dL_law_245 ?_
  refine wx_sld hx hb hX hbl hbA h2 dL_law_246 hF (fun j3 hF => ?_)
  refine lv_aload_n hx hb dL_law_247 rfl (lv_at hl 0 rfl) ?_
  refine lv_iload hx hb dL_law_248 (lv_at hl 4 rfl) ?_
  refine lv_iconst hx hb dL_law_250 k_iconst_4 ?_
  refine lv_iadd hx hb dL_law_251 ?_
  refine wx_sld hx hb hX hbl hbA h2 dL_law_252 hF (fun j4 hF => ?_)
  refine lv_aload_n hx hb dL_law_253 rfl (lv_at hl 0 rfl) ?_
  refine lv_iload hx hb dL_law_254 (lv_at hl 4 rfl) ?_
  refine lv_iconst hx hb dL_law_256 k_iconst_5 ?_
  refine lv_iadd hx hb dL_law_257 ?_
  refine wx_sld hx hb hX hbl hbA h2 dL_law_258 hF (fun j5 hF => ?_)
  refine wl_e0i hC h2 hl (c_X8_feed 0 (xs j1) (xs j2) (xs j3) (xs j4) (xs j5) rfl) y_X8_feed v_X8_feed rfl rfl m_L_21 rfl ⟨Nat.le_of_ble_eq_true rfl, Nat.le_of_ble_eq_true rfl⟩ hcs rfl (Nat.le_of_ble_eq_true rfl) dL_law_259 hF (fun r6 u7 H locs hF h2 => ?_)
  refine lv_aload_n hx hb dL_law_262 rfl (lv_at hl 2 rfl) ?_
  refine lv_aload_n hx hb dL_law_263 rfl (lv_at hl 0 rfl) ?_
  refine lv_iload hx hb dL_law_264 (lv_at hl 4 rfl) ?_
  refine lv_iconst hx hb dL_law_266 k_iconst_1 ?_
  refine lv_iadd hx hb dL_law_267 ?_
  refine wx_sld hx hb hX hbl hbA h2 dL_law_268 hF (fun j8 hF => ?_)
  refine lv_aload_n hx hb dL_law_269 rfl (lv_at hl 0 rfl) ?_
  refine lv_iload hx hb dL_law_270 (lv_at hl 4 rfl) ?_
  refine lv_iconst hx hb dL_law_272 k_iconst_2 ?_
  refine lv_iadd hx hb dL_law_273 ?_
  refine wx_sld hx hb hX hbl hbA h2 dL_law_274 hF (fun j9 hF => ?_)
  refine lv_aload_n hx hb dL_law_275 rfl (lv_at hl 0 rfl) ?_
  refine lv_iload hx hb dL_law_276 (lv_at hl 4 rfl) ?_
  refine lv_iconst hx hb dL_law_278 k_iconst_3 ?_
  refine lv_iadd hx hb dL_law_279 ?_
  refine wx_sld hx hb hX hbl hbA h2 dL_law_280 hF (fun j10 hF => ?_)
  refine lv_aload_n hx hb dL_law_281 rfl (lv_at hl 0 rfl) ?_
  refine lv_iload hx hb dL_law_282 (lv_at hl 4 rfl) ?_
  refine lv_iconst hx hb dL_law_284 k_iconst_4 ?_
  refine lv_iadd hx hb dL_law_285 ?_
  refine wx_sld hx hb hX hbl hbA h2 dL_law_286 hF (fun j11 hF => ?_)
  refine lv_aload_n hx hb dL_law_287 rfl (lv_at hl 0 rfl) ?_
  refine lv_iload hx hb dL_law_288 (lv_at hl 4 rfl) ?_
  refine lv_iconst hx hb dL_law_290 k_iconst_5 ?_
  refine lv_iadd hx hb dL_law_291 ?_
  refine wx_sld hx hb hX hbl hbA h2 dL_law_292 hF (fun j12 hF => ?_)
  refine wl_e1i hC1 h2 hl (c_X9_feed 79 (xs j8) (xs j9) (xs j10) (xs j11) (xs j12) rfl) y_X9_feed v_X9_feed rfl rfl m_L_25 rfl ⟨Nat.le_of_ble_eq_true rfl, Nat.le_of_ble_eq_true rfl⟩ hcs rfl (Nat.le_of_ble_eq_true rfl) dL_law_293 hF (fun r13 t14 H locs hF h2 => ?_)
  refine lv_icmp_eq hx hb dL_law_296 (tgt := 1556) rfl (fun h => ?_) (fun h => ?_)
  rotate_left
  · have hF := wx_f h hF
    exact absurd (wJ_r hq hF) (by decide)
  have hF := wx_t h hF
  have hF := wJ_l hq hF
  refine W.widen (k := 120 + 2 * t + 2) (n := 6245 + 16 * t + 16) (by omega) (by omega) ?_
  exact hE u7 t14 v0 H locs ls hF h2 (lv_sub hl [0, 1, 2, 3, 4] rfl)
set_option maxRecDepth 100000 in
set_option maxHeartbeats 4000000 in
theorem law_c1 {p : Program} {l : Launch} {e : Env} {s : State} {m : MethodId} {below : List Frame} {meth : Method} {c : Code} {D : va_G} {κ : Nat → ClassId} {ρ : Nat → Nat} {A : Nat → Prop} {b L : Nat} {xs : Nat → Int32} {t : Nat} {i0 : Int32} {u0 t0 : wSt} {v0 : Int64} {H : Heap} {locs : List Loc} {ls : Array Slot} {q : (Int32 × wSt × wSt × Int64) ⊕ Int32} {B : Int32 × wSt × wSt × Int64 → Option Int32} (hC : wCx p m c cL_law 7 s #[Value.ref b] RL D κ 0) (hC1 : wCx p m c cL_law 7 s #[Value.ref b] RL D κ 1) (hr : meth.sig.returnType = ret) (hlk : meth.locks = false) (hX : va_X b L xs s s.heap) (hbl : b < s.heap.size) (hbA : ¬ A b) (hG : wGst p l e s m below meth c b D κ ρ A) (hq : wJP q B 1) (hcs : 120 + 2 * t ≤ room_1.cells ∧ 6245 + 16 * t ≤ room_1.slots) (hcs2 : 120 + 2 * t + 2 ≤ 1146 ∧ 6245 + 16 * t + 16 ≤ 14449) (hcs3 : 120 + 2 * t + 2 ≤ room_1.cells ∧ 6245 + 16 * t + 16 ≤ room_1.slots) (hE : ∀ (u1 t1 : wSt) (v1 : Int64) (H : Heap) (locs : List Loc) (ls : Array Slot), B (i0 + (6 : Int32), u1, t1, v1) = some 1 → wH2 D κ ρ A s.heap H locs u1 t1 v1 → lv_has ls 7 [(0, .ref b), (1, .ref (ρ 0)), (2, .ref (ρ 79)), (3, .ref (ρ 119)), (4, .int i0)] → W p l e room_1 s m #[Value.ref b] below meth c H locs (120 + 2 * t + 2) (6245 + 16 * t + 16) (lw_Z below #[Value.ref b] s) (F0 m 1556 ls [])) (hF : F_law_c1 L xs i0 u0 t0 v0 = some q) (h2 : wH2 D κ ρ A s.heap H locs u0 t0 v0) (hl : lv_has ls 7 [(0, .ref b), (1, .ref (ρ 0)), (2, .ref (ρ 79)), (3, .ref (ρ 119)), (4, .int i0)]) : W p l e room_1 s m #[Value.ref b] below meth c H locs (120 + 2 * t) (6245 + 16 * t) (lw_Z below #[Value.ref b] s) (F0 m 301 ls []) := by
  have hx := hC.1.1
  have hb := hC.1.2.1
  unfold F_law_c1 at hF
  refine lv_aload_n hx hb dL_law_301 rfl (lv_at hl 1 rfl) ?_
  refine lv_aload_n hx hb dL_law_302 rfl (lv_at hl 0 rfl) ?_
  refine lv_iload hx hb dL_law_303 (lv_at hl 4 rfl) ?_
  refine lv_iconst hx hb dL_law_305 k_iconst_1 ?_
  refine lv_iadd hx hb dL_law_306 ?_
  refine wx_sld hx hb hX hbl hbA h2 dL_law_307 hF (fun j15 hF => ?_)
  refine wl_e0i hC h2 hl (c_X8_text 0 (xs j15) rfl) y_X8_text v_X8_text rfl rfl m_L_26 rfl ⟨Nat.le_of_ble_eq_true rfl, Nat.le_of_ble_eq_true rfl⟩ hcs rfl (Nat.le_of_ble_eq_true rfl) dL_law_308 hF (fun r16 u17 H locs hF h2 => ?_)
  refine lv_aload_n hx hb dL_law_311 rfl (lv_at hl 2 rfl) ?_
  refine lv_aload_n hx hb dL_law_312 rfl (lv_at hl 0 rfl) ?_
  refine lv_iload hx hb dL_law_313 (lv_at hl 4 rfl) ?_
  refine lv_iconst hx hb dL_law_315 k_iconst_1 ?_
  refine lv_iadd hx hb dL_law_316 ?_
  refine wx_sld hx hb hX hbl hbA h2 dL_law_317 hF (fun j18 hF => ?_)
  refine wl_e1i hC1 h2 hl (c_X9_text 79 (xs j18) rfl) y_X9_text v_X9_text rfl rfl m_L_30 rfl ⟨Nat.le_of_ble_eq_true rfl, Nat.le_of_ble_eq_true rfl⟩ hcs rfl (Nat.le_of_ble_eq_true rfl) dL_law_318 hF (fun r19 t20 H locs hF h2 => ?_)
  refine lv_icmp_eq hx hb dL_law_321 (tgt := 1556) rfl (fun h => ?_) (fun h => ?_)
  rotate_left
  · have hF := wx_f h hF
    exact absurd (wJ_r hq hF) (by decide)
  have hF := wx_t h hF
  have hF := wJ_l hq hF
  refine W.widen (k := 120 + 2 * t + 2) (n := 6245 + 16 * t + 16) (by omega) (by omega) ?_
  exact hE u17 t20 v0 H locs ls hF h2 (lv_sub hl [0, 1, 2, 3, 4] rfl)
set_option maxRecDepth 100000 in
set_option maxHeartbeats 4000000 in
theorem law_c2 {p : Program} {l : Launch} {e : Env} {s : State} {m : MethodId} {below : List Frame} {meth : Method} {c : Code} {D : va_G} {κ : Nat → ClassId} {ρ : Nat → Nat} {A : Nat → Prop} {b L : Nat} {xs : Nat → Int32} {t : Nat} {i0 : Int32} {u0 t0 : wSt} {v0 : Int64} {H : Heap} {locs : List Loc} {ls : Array Slot} {q : (Int32 × wSt × wSt × Int64) ⊕ Int32} {B : Int32 × wSt × wSt × Int64 → Option Int32} (hC : wCx p m c cL_law 7 s #[Value.ref b] RL D κ 0) (hC1 : wCx p m c cL_law 7 s #[Value.ref b] RL D κ 1) (hr : meth.sig.returnType = ret) (hlk : meth.locks = false) (hX : va_X b L xs s s.heap) (hbl : b < s.heap.size) (hbA : ¬ A b) (hG : wGst p l e s m below meth c b D κ ρ A) (hq : wJP q B 1) (hcs : 120 + 2 * t ≤ room_1.cells ∧ 6245 + 16 * t ≤ room_1.slots) (hcs2 : 120 + 2 * t + 2 ≤ 1146 ∧ 6245 + 16 * t + 16 ≤ 14449) (hcs3 : 120 + 2 * t + 2 ≤ room_1.cells ∧ 6245 + 16 * t + 16 ≤ room_1.slots) (hE : ∀ (u1 t1 : wSt) (v1 : Int64) (H : Heap) (locs : List Loc) (ls : Array Slot), B (i0 + (6 : Int32), u1, t1, v1) = some 1 → wH2 D κ ρ A s.heap H locs u1 t1 v1 → lv_has ls 7 [(0, .ref b), (1, .ref (ρ 0)), (2, .ref (ρ 79)), (3, .ref (ρ 119)), (4, .int i0)] → W p l e room_1 s m #[Value.ref b] below meth c H locs (120 + 2 * t + 2) (6245 + 16 * t + 16) (lw_Z below #[Value.ref b] s) (F0 m 1556 ls [])) (hF : F_law_c2 L xs i0 u0 t0 v0 = some q) (h2 : wH2 D κ ρ A s.heap H locs u0 t0 v0) (hl : lv_has ls 7 [(0, .ref b), (1, .ref (ρ 0)), (2, .ref (ρ 79)), (3, .ref (ρ 119)), (4, .int i0)]) : W p l e room_1 s m #[Value.ref b] below meth c H locs (120 + 2 * t) (6245 + 16 * t) (lw_Z below #[Value.ref b] s) (F0 m 326 ls []) := by
  have hx := hC.1.1
  have hb := hC.1.2.1
  unfold F_law_c2 at hF
  refine lv_aload_n hx hb dL_law_326 rfl (lv_at hl 1 rfl) ?_
  refine lv_aload_n hx hb dL_law_327 rfl (lv_at hl 0 rfl) ?_
  refine lv_iload hx hb dL_law_328 (lv_at hl 4 rfl) ?_
  refine lv_iconst hx hb dL_law_330 k_iconst_1 ?_
  refine lv_iadd hx hb dL_law_331 ?_
  refine wx_sld hx hb hX hbl hbA h2 dL_law_332 hF (fun j21 hF => ?_)
  refine wl_p0i hC h2 hl (c_X8_fault 0 (xs j21) rfl) y_X8_fault v_X8_fault rfl rfl m_L_31 rfl ⟨Nat.le_of_ble_eq_true rfl, Nat.le_of_ble_eq_true rfl⟩ hcs rfl (Nat.le_of_ble_eq_true rfl) dL_law_333 hF (fun r22 H locs hF h2 => ?_)
  refine lv_aload_n hx hb dL_law_336 rfl (lv_at hl 2 rfl) ?_
  refine lv_aload_n hx hb dL_law_337 rfl (lv_at hl 0 rfl) ?_
  refine lv_iload hx hb dL_law_338 (lv_at hl 4 rfl) ?_
  refine lv_iconst hx hb dL_law_340 k_iconst_1 ?_
  refine lv_iadd hx hb dL_law_341 ?_
  refine wx_sld hx hb hX hbl hbA h2 dL_law_342 hF (fun j23 hF => ?_)
  refine wl_e1i hC1 h2 hl (c_X9_fault 79 (xs j23) rfl) y_X9_fault v_X9_fault rfl rfl m_L_34 rfl ⟨Nat.le_of_ble_eq_true rfl, Nat.le_of_ble_eq_true rfl⟩ hcs rfl (Nat.le_of_ble_eq_true rfl) dL_law_343 hF (fun r24 t25 H locs hF h2 => ?_)
  refine lv_icmp_eq hx hb dL_law_346 (tgt := 1556) rfl (fun h => ?_) (fun h => ?_)
  rotate_left
  · have hF := wx_f h hF
    exact absurd (wJ_r hq hF) (by decide)
  have hF := wx_t h hF
  have hF := wJ_l hq hF
  refine W.widen (k := 120 + 2 * t + 2) (n := 6245 + 16 * t + 16) (by omega) (by omega) ?_
  exact hE u0 t25 v0 H locs ls hF h2 (lv_sub hl [0, 1, 2, 3, 4] rfl)
set_option maxRecDepth 100000 in
set_option maxHeartbeats 4000000 in
theorem law_c3 {p : Program} {l : Launch} {e : Env} {s : State} {m : MethodId} {below : List Frame} {meth : Method} {c : Code} {D : va_G} {κ : Nat → ClassId} {ρ : Nat → Nat} {A : Nat → Prop} {b L : Nat} {xs : Nat → Int32} {t : Nat} {i0 : Int32} {u0 t0 : wSt} {v0 : Int64} {H : Heap} {locs : List Loc} {ls : Array Slot} {q : (Int32 × wSt × wSt × Int64) ⊕ Int32} {B : Int32 × wSt × wSt × Int64 → Option Int32} (hC : wCx p m c cL_law 7 s #[Value.ref b] RL D κ 0) (hC1 : wCx p m c cL_law 7 s #[Value.ref b] RL D κ 1) (hr : meth.sig.returnType = ret) (hlk : meth.locks = false) (hX : va_X b L xs s s.heap) (hbl : b < s.heap.size) (hbA : ¬ A b) (hG : wGst p l e s m below meth c b D κ ρ A) (hq : wJP q B 1) (hcs : 120 + 2 * t ≤ room_1.cells ∧ 6245 + 16 * t ≤ room_1.slots) (hcs2 : 120 + 2 * t + 2 ≤ 1146 ∧ 6245 + 16 * t + 16 ≤ 14449) (hcs3 : 120 + 2 * t + 2 ≤ room_1.cells ∧ 6245 + 16 * t + 16 ≤ room_1.slots) (hE : ∀ (u1 t1 : wSt) (v1 : Int64) (H : Heap) (locs : List Loc) (ls : Array Slot), B (i0 + (6 : Int32), u1, t1, v1) = some 1 → wH2 D κ ρ A s.heap H locs u1 t1 v1 → lv_has ls 7 [(0, .ref b), (1, .ref (ρ 0)), (2, .ref (ρ 79)), (3, .ref (ρ 119)), (4, .int i0)] → W p l e room_1 s m #[Value.ref b] below meth c H locs (120 + 2 * t + 2) (6245 + 16 * t + 16) (lw_Z below #[Value.ref b] s) (F0 m 1556 ls [])) (hF : F_law_c3 L xs i0 u0 t0 v0 = some q) (h2 : wH2 D κ ρ A s.heap H locs u0 t0 v0) (hl : lv_has ls 7 [(0, .ref b), (1, .ref (ρ 0)), (2, .ref (ρ 79)), (3, .ref (ρ 119)), (4, .int i0)]) : W p l e room_1 s m #[Value.ref b] below meth c H locs (120 + 2 * t) (6245 + 16 * t) (lw_Z below #[Value.ref b] s) (F0 m 351 ls []) := by
  have hx := hC.1.1
  have hb := hC.1.2.1
  unfold F_law_c3 at hF
  refine lv_aload_n hx hb dL_law_351 rfl (lv_at hl 1 rfl) ?_
  refine lv_aload_n hx hb dL_law_352 rfl (lv_at hl 0 rfl) ?_
  refine lv_iload hx hb dL_law_353 (lv_at hl 4 rfl) ?_
  refine lv_iconst hx hb dL_law_355 k_iconst_1 ?_
  refine lv_iadd hx hb dL_law_356 ?_
  refine wx_sld hx hb hX hbl hbA h2 dL_law_357 hF (fun j26 hF => ?_)
  refine lv_aload_n hx hb dL_law_358 rfl (lv_at hl 0 rfl) ?_
  refine lv_iload hx hb dL_law_359 (lv_at hl 4 rfl) ?_
  refine lv_iconst hx hb dL_law_361 k_iconst_2 ?_
  refine lv_iadd hx hb dL_law_362 ?_
  refine wx_sld hx hb hX hbl hbA h2 dL_law_363 hF (fun j27 hF => ?_)
  refine wl_p0i hC h2 hl (c_X8_named 0 (xs j26) (xs j27) rfl) y_X8_named v_X8_named rfl rfl m_L_35 rfl ⟨Nat.le_of_ble_eq_true rfl, Nat.le_of_ble_eq_true rfl⟩ hcs rfl (Nat.le_of_ble_eq_true rfl) dL_law_364 hF (fun r28 H locs hF h2 => ?_)
  refine lv_aload_n hx hb dL_law_367 rfl (lv_at hl 2 rfl) ?_
  refine lv_aload_n hx hb dL_law_368 rfl (lv_at hl 0 rfl) ?_
  refine lv_iload hx hb dL_law_369 (lv_at hl 4 rfl) ?_
  refine lv_iconst hx hb dL_law_371 k_iconst_1 ?_
  refine lv_iadd hx hb dL_law_372 ?_
  refine wx_sld hx hb hX hbl hbA h2 dL_law_373 hF (fun j29 hF => ?_)
  refine lv_aload_n hx hb dL_law_374 rfl (lv_at hl 0 rfl) ?_
  refine lv_iload hx hb dL_law_375 (lv_at hl 4 rfl) ?_
  refine lv_iconst hx hb dL_law_377 k_iconst_2 ?_
  refine lv_iadd hx hb dL_law_378 ?_
  refine wx_sld hx hb hX hbl hbA h2 dL_law_379 hF (fun j30 hF => ?_)
  refine wl_e1i hC1 h2 hl (c_X9_named 79 (xs j29) (xs j30) rfl) y_X9_named v_X9_named rfl rfl m_L_38 rfl ⟨Nat.le_of_ble_eq_true rfl, Nat.le_of_ble_eq_true rfl⟩ hcs rfl (Nat.le_of_ble_eq_true rfl) dL_law_380 hF (fun r31 t32 H locs hF h2 => ?_)
  refine lv_icmp_eq hx hb dL_law_383 (tgt := 1556) rfl (fun h => ?_) (fun h => ?_)
  rotate_left
  · have hF := wx_f h hF
    exact absurd (wJ_r hq hF) (by decide)
  have hF := wx_t h hF
  have hF := wJ_l hq hF
  refine W.widen (k := 120 + 2 * t + 2) (n := 6245 + 16 * t + 16) (by omega) (by omega) ?_
  exact hE u0 t32 v0 H locs ls hF h2 (lv_sub hl [0, 1, 2, 3, 4] rfl)
set_option maxRecDepth 100000 in
set_option maxHeartbeats 4000000 in
theorem law_c4 {p : Program} {l : Launch} {e : Env} {s : State} {m : MethodId} {below : List Frame} {meth : Method} {c : Code} {D : va_G} {κ : Nat → ClassId} {ρ : Nat → Nat} {A : Nat → Prop} {b L : Nat} {xs : Nat → Int32} {t : Nat} {i0 : Int32} {u0 t0 : wSt} {v0 : Int64} {H : Heap} {locs : List Loc} {ls : Array Slot} {q : (Int32 × wSt × wSt × Int64) ⊕ Int32} {B : Int32 × wSt × wSt × Int64 → Option Int32} (hC : wCx p m c cL_law 7 s #[Value.ref b] RL D κ 0) (hC1 : wCx p m c cL_law 7 s #[Value.ref b] RL D κ 1) (hr : meth.sig.returnType = ret) (hlk : meth.locks = false) (hX : va_X b L xs s s.heap) (hbl : b < s.heap.size) (hbA : ¬ A b) (hG : wGst p l e s m below meth c b D κ ρ A) (hq : wJP q B 1) (hcs : 120 + 2 * t ≤ room_1.cells ∧ 6245 + 16 * t ≤ room_1.slots) (hcs2 : 120 + 2 * t + 2 ≤ 1146 ∧ 6245 + 16 * t + 16 ≤ 14449) (hcs3 : 120 + 2 * t + 2 ≤ room_1.cells ∧ 6245 + 16 * t + 16 ≤ room_1.slots) (hE : ∀ (u1 t1 : wSt) (v1 : Int64) (H : Heap) (locs : List Loc) (ls : Array Slot), B (i0 + (6 : Int32), u1, t1, v1) = some 1 → wH2 D κ ρ A s.heap H locs u1 t1 v1 → lv_has ls 7 [(0, .ref b), (1, .ref (ρ 0)), (2, .ref (ρ 79)), (3, .ref (ρ 119)), (4, .int i0)] → W p l e room_1 s m #[Value.ref b] below meth c H locs (120 + 2 * t + 2) (6245 + 16 * t + 16) (lw_Z below #[Value.ref b] s) (F0 m 1556 ls [])) (hF : F_law_c4 L xs i0 u0 t0 v0 = some q) (h2 : wH2 D κ ρ A s.heap H locs u0 t0 v0) (hl : lv_has ls 7 [(0, .ref b), (1, .ref (ρ 0)), (2, .ref (ρ 79)), (3, .ref (ρ 119)), (4, .int i0)]) : W p l e room_1 s m #[Value.ref b] below meth c H locs (120 + 2 * t) (6245 + 16 * t) (lw_Z below #[Value.ref b] s) (F0 m 388 ls []) := by
  have hx := hC.1.1
  have hb := hC.1.2.1
  unfold F_law_c4 at hF
  refine lv_aload_n hx hb dL_law_388 rfl (lv_at hl 1 rfl) ?_
  refine lv_aload_n hx hb dL_law_389 rfl (lv_at hl 0 rfl) ?_
  refine lv_iload hx hb dL_law_390 (lv_at hl 4 rfl) ?_
  refine lv_iconst hx hb dL_law_392 k_iconst_1 ?_
  refine lv_iadd hx hb dL_law_393 ?_
  refine wx_sld hx hb hX hbl hbA h2 dL_law_394 hF (fun j33 hF => ?_)
  refine lv_aload_n hx hb dL_law_395 rfl (lv_at hl 0 rfl) ?_
  refine lv_iload hx hb dL_law_396 (lv_at hl 4 rfl) ?_
  refine lv_iconst hx hb dL_law_398 k_iconst_2 ?_
  refine lv_iadd hx hb dL_law_399 ?_
  refine wx_sld hx hb hX hbl hbA h2 dL_law_400 hF (fun j34 hF => ?_)
  refine lv_aload_n hx hb dL_law_401 rfl (lv_at hl 3 rfl) ?_
  refine hG u0 t0 v0 (xs j33) (xs j34) (120 + 2 * t) (6245 + 16 * t) H locs ls _ _ _ _ _ hcs2 h2 hl.1 dL_law_402 hF (Nat.le_of_ble_eq_true rfl) (fun r35 v1 u37 H locs hF h2 => ?_)
  refine wx_istore hx hb dL_law_405 hl (by decide) (fun ls hl => ?_)
  have hl : lv_has ls 7 [(5, .int r35), (0, .ref b), (1, .ref (ρ 0)), (2, .ref (ρ 79)), (3, .ref (ρ 119)), (4, .int i0)] := hl
  refine lv_aload_n hx hb dL_law_407 rfl (lv_at hl 3 rfl) ?_
  refine lv_aload_n hx hb dL_law_408 rfl (lv_at hl 1 rfl) ?_
  refine lv_iload hx hb dL_law_409 (lv_at hl 5 rfl) ?_
  refine lv_iconst hx hb dL_law_411 k_iconst_1 ?_
  refine lv_iadd hx hb dL_law_412 ?_
  refine wx_sld hx hb hX hbl hbA h2 dL_law_413 hF (fun j38 hF => ?_)
  refine lv_aload_n hx hb dL_law_414 rfl (lv_at hl 1 rfl) ?_
  refine lv_iload hx hb dL_law_415 (lv_at hl 5 rfl) ?_
  refine lv_iconst hx hb dL_law_417 k_iconst_2 ?_
  refine lv_iadd hx hb dL_law_418 ?_
  refine wx_sld hx hb hX hbl hbA h2 dL_law_419 hF (fun j39 hF => ?_)
  refine wl_e1i hC1 h2 hl (c_X9_guest 79 (xs j38) (xs j39) rfl) y_X9_guest v_X9_guest rfl rfl m_L_44 rfl ⟨Nat.le_of_ble_eq_true rfl, Nat.le_of_ble_eq_true rfl⟩ hcs3 rfl (Nat.le_of_ble_eq_true rfl) dL_law_420 hF (fun r40 t41 H locs hF h2 => ?_)
  refine wx_istore hx hb dL_law_423 hl (by decide) (fun ls hl => ?_)
  have hl : lv_has ls 7 [(6, .int r40), (5, .int r35), (0, .ref b), (1, .ref (ρ 0)), (2, .ref (ρ 79)), (3, .ref (ρ 119)), (4, .int i0)] := hl
  refine lv_aload_n hx hb dL_law_425 rfl (lv_at hl 4 rfl) ?_
  refine wl_p1i hC1 h2 hl (c_X9_thrown 79 rfl) y_X9_thrown v_X9_thrown rfl rfl m_L_45 rfl ⟨Nat.le_of_ble_eq_true rfl, Nat.le_of_ble_eq_true rfl⟩ hcs3 rfl (Nat.le_of_ble_eq_true rfl) dL_law_426 hF (fun r42 H locs hF h2 => ?_)
  refine lv_iload hx hb dL_law_429 (lv_at hl 1 rfl) ?_
  refine lv_icmp_eq hx hb dL_law_431 (tgt := 436) rfl (fun h => ?_) (fun h => ?_)
  rotate_left
  · have hF := wx_f h hF
    exact absurd (wJ_r hq hF) (by decide)
  have hF := wx_t h hF
  refine lv_iload hx hb dL_law_436 (lv_at hl 1 rfl) ?_
  refine lv_if_ne hx hb dL_law_438 (tgt := 453) rfl (fun h => ?_) (fun h => ?_)
  · have hF := wx_f h hF
    refine lv_goto hx hb dL_law_453 (tgt := 1556) rfl ?_
    have hF := wJ_l hq hF
    refine W.widen (k := 120 + 2 * t + 2) (n := 6245 + 16 * t + 16) (by omega) (by omega) ?_
    exact hE u37 t41 v1 H locs ls hF h2 (lv_sub hl [2, 3, 4, 5, 6] rfl)
  have hF := wx_t h hF
  refine lv_aload_n hx hb dL_law_441 rfl (lv_at hl 5 rfl) ?_
  refine lv_iconst hx hb dL_law_442 k_iconst_0 ?_
  refine wx_outld hC.2.1 hx hb h2 dL_law_443 ?_
  refine lv_iload hx hb dL_law_444 (lv_at hl 0 rfl) ?_
  refine lv_i2l hx hb dL_law_446 rfl ?_
  refine W.lcmp hx hb dL_law_447 ?_
  refine lv_if_eq hx hb dL_law_448 (tgt := 453) rfl (fun h => ?_) (fun h => ?_)
  rotate_left
  · have hF := wx_f h hF
    exact absurd (wJ_r hq hF) (by decide)
  have hF := wx_t h hF
  refine lv_goto hx hb dL_law_453 (tgt := 1556) rfl ?_
  have hF := wJ_l hq hF
  refine W.widen (k := 120 + 2 * t + 2) (n := 6245 + 16 * t + 16) (by omega) (by omega) ?_
  exact hE u37 t41 v1 H locs ls hF h2 (lv_sub hl [2, 3, 4, 5, 6] rfl)
set_option maxRecDepth 100000 in
set_option maxHeartbeats 4000000 in
theorem law_c5 {p : Program} {l : Launch} {e : Env} {s : State} {m : MethodId} {below : List Frame} {meth : Method} {c : Code} {D : va_G} {κ : Nat → ClassId} {ρ : Nat → Nat} {A : Nat → Prop} {b L : Nat} {xs : Nat → Int32} {t : Nat} {i0 : Int32} {u0 t0 : wSt} {v0 : Int64} {H : Heap} {locs : List Loc} {ls : Array Slot} {q : (Int32 × wSt × wSt × Int64) ⊕ Int32} {B : Int32 × wSt × wSt × Int64 → Option Int32} (hC : wCx p m c cL_law 7 s #[Value.ref b] RL D κ 0) (hC1 : wCx p m c cL_law 7 s #[Value.ref b] RL D κ 1) (hr : meth.sig.returnType = ret) (hlk : meth.locks = false) (hX : va_X b L xs s s.heap) (hbl : b < s.heap.size) (hbA : ¬ A b) (hG : wGst p l e s m below meth c b D κ ρ A) (hq : wJP q B 1) (hcs : 120 + 2 * t ≤ room_1.cells ∧ 6245 + 16 * t ≤ room_1.slots) (hcs2 : 120 + 2 * t + 2 ≤ 1146 ∧ 6245 + 16 * t + 16 ≤ 14449) (hcs3 : 120 + 2 * t + 2 ≤ room_1.cells ∧ 6245 + 16 * t + 16 ≤ room_1.slots) (hE : ∀ (u1 t1 : wSt) (v1 : Int64) (H : Heap) (locs : List Loc) (ls : Array Slot), B (i0 + (6 : Int32), u1, t1, v1) = some 1 → wH2 D κ ρ A s.heap H locs u1 t1 v1 → lv_has ls 7 [(0, .ref b), (1, .ref (ρ 0)), (2, .ref (ρ 79)), (3, .ref (ρ 119)), (4, .int i0)] → W p l e room_1 s m #[Value.ref b] below meth c H locs (120 + 2 * t + 2) (6245 + 16 * t + 16) (lw_Z below #[Value.ref b] s) (F0 m 1556 ls [])) (hF : F_law_c5 L xs i0 u0 t0 v0 = some q) (h2 : wH2 D κ ρ A s.heap H locs u0 t0 v0) (hl : lv_has ls 7 [(0, .ref b), (1, .ref (ρ 0)), (2, .ref (ρ 79)), (3, .ref (ρ 119)), (4, .int i0)]) : W p l e room_1 s m #[Value.ref b] below meth c H locs (120 + 2 * t) (6245 + 16 * t) (lw_Z below #[Value.ref b] s) (F0 m 456 ls []) := by
  have hx := hC.1.1
  have hb := hC.1.2.1
  unfold F_law_c5 at hF
  refine lv_aload_n hx hb dL_law_456 rfl (lv_at hl 1 rfl) ?_
  refine lv_aload_n hx hb dL_law_457 rfl (lv_at hl 0 rfl) ?_
  refine lv_iload hx hb dL_law_458 (lv_at hl 4 rfl) ?_
  refine lv_iconst hx hb dL_law_460 k_iconst_1 ?_
  refine lv_iadd hx hb dL_law_461 ?_
  refine wx_sld hx hb hX hbl hbA h2 dL_law_462 hF (fun j43 hF => ?_)
  refine lv_aload_n hx hb dL_law_463 rfl (lv_at hl 0 rfl) ?_
  refine lv_iload hx hb dL_law_464 (lv_at hl 4 rfl) ?_
  refine lv_iconst hx hb dL_law_466 k_iconst_2 ?_
  refine lv_iadd hx hb dL_law_467 ?_
  refine wx_sld hx hb hX hbl hbA h2 dL_law_468 hF (fun j44 hF => ?_)
  refine wl_p0i hC h2 hl (c_X8_fruit 0 (xs j43) (xs j44) rfl) y_X8_fruit v_X8_fruit rfl rfl m_L_49 rfl ⟨Nat.le_of_ble_eq_true rfl, Nat.le_of_ble_eq_true rfl⟩ hcs rfl (Nat.le_of_ble_eq_true rfl) dL_law_469 hF (fun r45 H locs hF h2 => ?_)
  refine lv_aload_n hx hb dL_law_472 rfl (lv_at hl 2 rfl) ?_
  refine lv_aload_n hx hb dL_law_473 rfl (lv_at hl 0 rfl) ?_
  refine lv_iload hx hb dL_law_474 (lv_at hl 4 rfl) ?_
  refine lv_iconst hx hb dL_law_476 k_iconst_1 ?_
  refine lv_iadd hx hb dL_law_477 ?_
  refine wx_sld hx hb hX hbl hbA h2 dL_law_478 hF (fun j46 hF => ?_)
  refine lv_aload_n hx hb dL_law_479 rfl (lv_at hl 0 rfl) ?_
  refine lv_iload hx hb dL_law_480 (lv_at hl 4 rfl) ?_
  refine lv_iconst hx hb dL_law_482 k_iconst_2 ?_
  refine lv_iadd hx hb dL_law_483 ?_
  refine wx_sld hx hb hX hbl hbA h2 dL_law_484 hF (fun j47 hF => ?_)
  refine wl_e1i hC1 h2 hl (c_X9_fruit 79 (xs j46) (xs j47) rfl) y_X9_fruit v_X9_fruit rfl rfl m_L_52 rfl ⟨Nat.le_of_ble_eq_true rfl, Nat.le_of_ble_eq_true rfl⟩ hcs rfl (Nat.le_of_ble_eq_true rfl) dL_law_485 hF (fun r48 t49 H locs hF h2 => ?_)
  refine lv_icmp_eq hx hb dL_law_488 (tgt := 1556) rfl (fun h => ?_) (fun h => ?_)
  rotate_left
  · have hF := wx_f h hF
    exact absurd (wJ_r hq hF) (by decide)
  have hF := wx_t h hF
  have hF := wJ_l hq hF
  refine W.widen (k := 120 + 2 * t + 2) (n := 6245 + 16 * t + 16) (by omega) (by omega) ?_
  exact hE u0 t49 v0 H locs ls hF h2 (lv_sub hl [0, 1, 2, 3, 4] rfl)
set_option maxRecDepth 100000 in
set_option maxHeartbeats 4000000 in
theorem law_c6 {p : Program} {l : Launch} {e : Env} {s : State} {m : MethodId} {below : List Frame} {meth : Method} {c : Code} {D : va_G} {κ : Nat → ClassId} {ρ : Nat → Nat} {A : Nat → Prop} {b L : Nat} {xs : Nat → Int32} {t : Nat} {i0 : Int32} {u0 t0 : wSt} {v0 : Int64} {H : Heap} {locs : List Loc} {ls : Array Slot} {q : (Int32 × wSt × wSt × Int64) ⊕ Int32} {B : Int32 × wSt × wSt × Int64 → Option Int32} (hC : wCx p m c cL_law 7 s #[Value.ref b] RL D κ 0) (hC1 : wCx p m c cL_law 7 s #[Value.ref b] RL D κ 1) (hr : meth.sig.returnType = ret) (hlk : meth.locks = false) (hX : va_X b L xs s s.heap) (hbl : b < s.heap.size) (hbA : ¬ A b) (hG : wGst p l e s m below meth c b D κ ρ A) (hq : wJP q B 1) (hcs : 120 + 2 * t ≤ room_1.cells ∧ 6245 + 16 * t ≤ room_1.slots) (hcs2 : 120 + 2 * t + 2 ≤ 1146 ∧ 6245 + 16 * t + 16 ≤ 14449) (hcs3 : 120 + 2 * t + 2 ≤ room_1.cells ∧ 6245 + 16 * t + 16 ≤ room_1.slots) (hE : ∀ (u1 t1 : wSt) (v1 : Int64) (H : Heap) (locs : List Loc) (ls : Array Slot), B (i0 + (6 : Int32), u1, t1, v1) = some 1 → wH2 D κ ρ A s.heap H locs u1 t1 v1 → lv_has ls 7 [(0, .ref b), (1, .ref (ρ 0)), (2, .ref (ρ 79)), (3, .ref (ρ 119)), (4, .int i0)] → W p l e room_1 s m #[Value.ref b] below meth c H locs (120 + 2 * t + 2) (6245 + 16 * t + 16) (lw_Z below #[Value.ref b] s) (F0 m 1556 ls [])) (hF : F_law_c6 L xs i0 u0 t0 v0 = some q) (h2 : wH2 D κ ρ A s.heap H locs u0 t0 v0) (hl : lv_has ls 7 [(0, .ref b), (1, .ref (ρ 0)), (2, .ref (ρ 79)), (3, .ref (ρ 119)), (4, .int i0)]) : W p l e room_1 s m #[Value.ref b] below meth c H locs (120 + 2 * t) (6245 + 16 * t) (lw_Z below #[Value.ref b] s) (F0 m 493 ls []) := by
  have hx := hC.1.1
  have hb := hC.1.2.1
  unfold F_law_c6 at hF
  refine lv_aload_n hx hb dL_law_493 rfl (lv_at hl 1 rfl) ?_
  refine lv_aload_n hx hb dL_law_494 rfl (lv_at hl 0 rfl) ?_
  refine lv_iload hx hb dL_law_495 (lv_at hl 4 rfl) ?_
  refine lv_iconst hx hb dL_law_497 k_iconst_1 ?_
  refine lv_iadd hx hb dL_law_498 ?_
  refine wx_sld hx hb hX hbl hbA h2 dL_law_499 hF (fun j50 hF => ?_)
  refine lv_aload_n hx hb dL_law_500 rfl (lv_at hl 0 rfl) ?_
  refine lv_iload hx hb dL_law_501 (lv_at hl 4 rfl) ?_
  refine lv_iconst hx hb dL_law_503 k_iconst_2 ?_
  refine lv_iadd hx hb dL_law_504 ?_
  refine wx_sld hx hb hX hbl hbA h2 dL_law_505 hF (fun j51 hF => ?_)
  refine lv_aload_n hx hb dL_law_506 rfl (lv_at hl 0 rfl) ?_
  refine lv_iload hx hb dL_law_507 (lv_at hl 4 rfl) ?_
  refine lv_iconst hx hb dL_law_509 k_iconst_3 ?_
  refine lv_iadd hx hb dL_law_510 ?_
  refine wx_sld hx hb hX hbl hbA h2 dL_law_511 hF (fun j52 hF => ?_)
  refine wl_e0l hC h2 hl (c_X8_law 0 (xs j50) (xs j51) (xs j52) rfl) y_X8_law v_X8_law rfl rfl m_L_53 rfl ⟨Nat.le_of_ble_eq_true rfl, Nat.le_of_ble_eq_true rfl⟩ hcs rfl (Nat.le_of_ble_eq_true rfl) dL_law_512 hF (fun r53 u54 H locs hF h2 => ?_)
  refine lv_aload_n hx hb dL_law_515 rfl (lv_at hl 2 rfl) ?_
  refine lv_aload_n hx hb dL_law_516 rfl (lv_at hl 0 rfl) ?_
  refine lv_iload hx hb dL_law_517 (lv_at hl 4 rfl) ?_
  refine lv_iconst hx hb dL_law_519 k_iconst_1 ?_
  refine lv_iadd hx hb dL_law_520 ?_
  refine wx_sld hx hb hX hbl hbA h2 dL_law_521 hF (fun j55 hF => ?_)
  refine lv_aload_n hx hb dL_law_522 rfl (lv_at hl 0 rfl) ?_
  refine lv_iload hx hb dL_law_523 (lv_at hl 4 rfl) ?_
  refine lv_iconst hx hb dL_law_525 k_iconst_2 ?_
  refine lv_iadd hx hb dL_law_526 ?_
  refine wx_sld hx hb hX hbl hbA h2 dL_law_527 hF (fun j56 hF => ?_)
  refine lv_aload_n hx hb dL_law_528 rfl (lv_at hl 0 rfl) ?_
  refine lv_iload hx hb dL_law_529 (lv_at hl 4 rfl) ?_
  refine lv_iconst hx hb dL_law_531 k_iconst_3 ?_
  refine lv_iadd hx hb dL_law_532 ?_
  refine wx_sld hx hb hX hbl hbA h2 dL_law_533 hF (fun j57 hF => ?_)
  refine wl_e1l hC1 h2 hl (c_X9_law 79 (xs j55) (xs j56) (xs j57) rfl) y_X9_law v_X9_law rfl rfl m_L_57 rfl ⟨Nat.le_of_ble_eq_true rfl, Nat.le_of_ble_eq_true rfl⟩ hcs rfl (Nat.le_of_ble_eq_true rfl) dL_law_534 hF (fun r58 t59 H locs hF h2 => ?_)
  refine W.lcmp hx hb dL_law_537 ?_
  refine lv_if_eq hx hb dL_law_538 (tgt := 1556) rfl (fun h => ?_) (fun h => ?_)
  rotate_left
  · have hF := wx_f h hF
    exact absurd (wJ_r hq hF) (by decide)
  have hF := wx_t h hF
  have hF := wJ_l hq hF
  refine W.widen (k := 120 + 2 * t + 2) (n := 6245 + 16 * t + 16) (by omega) (by omega) ?_
  exact hE u54 t59 v0 H locs ls hF h2 (lv_sub hl [0, 1, 2, 3, 4] rfl)
set_option maxRecDepth 100000 in
set_option maxHeartbeats 4000000 in
theorem law_c7 {p : Program} {l : Launch} {e : Env} {s : State} {m : MethodId} {below : List Frame} {meth : Method} {c : Code} {D : va_G} {κ : Nat → ClassId} {ρ : Nat → Nat} {A : Nat → Prop} {b L : Nat} {xs : Nat → Int32} {t : Nat} {i0 : Int32} {u0 t0 : wSt} {v0 : Int64} {H : Heap} {locs : List Loc} {ls : Array Slot} {q : (Int32 × wSt × wSt × Int64) ⊕ Int32} {B : Int32 × wSt × wSt × Int64 → Option Int32} (hC : wCx p m c cL_law 7 s #[Value.ref b] RL D κ 0) (hC1 : wCx p m c cL_law 7 s #[Value.ref b] RL D κ 1) (hr : meth.sig.returnType = ret) (hlk : meth.locks = false) (hX : va_X b L xs s s.heap) (hbl : b < s.heap.size) (hbA : ¬ A b) (hG : wGst p l e s m below meth c b D κ ρ A) (hq : wJP q B 1) (hcs : 120 + 2 * t ≤ room_1.cells ∧ 6245 + 16 * t ≤ room_1.slots) (hcs2 : 120 + 2 * t + 2 ≤ 1146 ∧ 6245 + 16 * t + 16 ≤ 14449) (hcs3 : 120 + 2 * t + 2 ≤ room_1.cells ∧ 6245 + 16 * t + 16 ≤ room_1.slots) (hE : ∀ (u1 t1 : wSt) (v1 : Int64) (H : Heap) (locs : List Loc) (ls : Array Slot), B (i0 + (6 : Int32), u1, t1, v1) = some 1 → wH2 D κ ρ A s.heap H locs u1 t1 v1 → lv_has ls 7 [(0, .ref b), (1, .ref (ρ 0)), (2, .ref (ρ 79)), (3, .ref (ρ 119)), (4, .int i0)] → W p l e room_1 s m #[Value.ref b] below meth c H locs (120 + 2 * t + 2) (6245 + 16 * t + 16) (lw_Z below #[Value.ref b] s) (F0 m 1556 ls [])) (hF : F_law_c7 L xs i0 u0 t0 v0 = some q) (h2 : wH2 D κ ρ A s.heap H locs u0 t0 v0) (hl : lv_has ls 7 [(0, .ref b), (1, .ref (ρ 0)), (2, .ref (ρ 79)), (3, .ref (ρ 119)), (4, .int i0)]) : W p l e room_1 s m #[Value.ref b] below meth c H locs (120 + 2 * t) (6245 + 16 * t) (lw_Z below #[Value.ref b] s) (F0 m 543 ls []) := by
  have hx := hC.1.1
  have hb := hC.1.2.1
  unfold F_law_c7 at hF
  refine lv_aload_n hx hb dL_law_543 rfl (lv_at hl 1 rfl) ?_
  refine lv_aload_n hx hb dL_law_544 rfl (lv_at hl 0 rfl) ?_
  refine lv_iload hx hb dL_law_545 (lv_at hl 4 rfl) ?_
  refine lv_iconst hx hb dL_law_547 k_iconst_1 ?_
  refine lv_iadd hx hb dL_law_548 ?_
  refine wx_sld hx hb hX hbl hbA h2 dL_law_549 hF (fun j60 hF => ?_)
  refine lv_aload_n hx hb dL_law_550 rfl (lv_at hl 0 rfl) ?_
  refine lv_iload hx hb dL_law_551 (lv_at hl 4 rfl) ?_
  refine lv_iconst hx hb dL_law_553 k_iconst_2 ?_
  refine lv_iadd hx hb dL_law_554 ?_
  refine wx_sld hx hb hX hbl hbA h2 dL_law_555 hF (fun j61 hF => ?_)
  refine wl_e0i hC h2 hl (c_X8_seat 0 (xs j60) (xs j61) rfl) y_X8_seat v_X8_seat rfl rfl m_L_58 rfl ⟨Nat.le_of_ble_eq_true rfl, Nat.le_of_ble_eq_true rfl⟩ hcs rfl (Nat.le_of_ble_eq_true rfl) dL_law_556 hF (fun r62 u63 H locs hF h2 => ?_)
  refine lv_aload_n hx hb dL_law_559 rfl (lv_at hl 2 rfl) ?_
  refine lv_aload_n hx hb dL_law_560 rfl (lv_at hl 0 rfl) ?_
  refine lv_iload hx hb dL_law_561 (lv_at hl 4 rfl) ?_
  refine lv_iconst hx hb dL_law_563 k_iconst_1 ?_
  refine lv_iadd hx hb dL_law_564 ?_
  refine wx_sld hx hb hX hbl hbA h2 dL_law_565 hF (fun j64 hF => ?_)
  refine lv_aload_n hx hb dL_law_566 rfl (lv_at hl 0 rfl) ?_
  refine lv_iload hx hb dL_law_567 (lv_at hl 4 rfl) ?_
  refine lv_iconst hx hb dL_law_569 k_iconst_2 ?_
  refine lv_iadd hx hb dL_law_570 ?_
  refine wx_sld hx hb hX hbl hbA h2 dL_law_571 hF (fun j65 hF => ?_)
  refine wl_e1i hC1 h2 hl (c_X9_seat 79 (xs j64) (xs j65) rfl) y_X9_seat v_X9_seat rfl rfl m_L_62 rfl ⟨Nat.le_of_ble_eq_true rfl, Nat.le_of_ble_eq_true rfl⟩ hcs rfl (Nat.le_of_ble_eq_true rfl) dL_law_572 hF (fun r66 t67 H locs hF h2 => ?_)
  refine lv_icmp_eq hx hb dL_law_575 (tgt := 1556) rfl (fun h => ?_) (fun h => ?_)
  rotate_left
  · have hF := wx_f h hF
    exact absurd (wJ_r hq hF) (by decide)
  have hF := wx_t h hF
  have hF := wJ_l hq hF
  refine W.widen (k := 120 + 2 * t + 2) (n := 6245 + 16 * t + 16) (by omega) (by omega) ?_
  exact hE u63 t67 v0 H locs ls hF h2 (lv_sub hl [0, 1, 2, 3, 4] rfl)
set_option maxRecDepth 100000 in
set_option maxHeartbeats 4000000 in
theorem law_c8 {p : Program} {l : Launch} {e : Env} {s : State} {m : MethodId} {below : List Frame} {meth : Method} {c : Code} {D : va_G} {κ : Nat → ClassId} {ρ : Nat → Nat} {A : Nat → Prop} {b L : Nat} {xs : Nat → Int32} {t : Nat} {i0 : Int32} {u0 t0 : wSt} {v0 : Int64} {H : Heap} {locs : List Loc} {ls : Array Slot} {q : (Int32 × wSt × wSt × Int64) ⊕ Int32} {B : Int32 × wSt × wSt × Int64 → Option Int32} (hC : wCx p m c cL_law 7 s #[Value.ref b] RL D κ 0) (hC1 : wCx p m c cL_law 7 s #[Value.ref b] RL D κ 1) (hr : meth.sig.returnType = ret) (hlk : meth.locks = false) (hX : va_X b L xs s s.heap) (hbl : b < s.heap.size) (hbA : ¬ A b) (hG : wGst p l e s m below meth c b D κ ρ A) (hq : wJP q B 1) (hcs : 120 + 2 * t ≤ room_1.cells ∧ 6245 + 16 * t ≤ room_1.slots) (hcs2 : 120 + 2 * t + 2 ≤ 1146 ∧ 6245 + 16 * t + 16 ≤ 14449) (hcs3 : 120 + 2 * t + 2 ≤ room_1.cells ∧ 6245 + 16 * t + 16 ≤ room_1.slots) (hE : ∀ (u1 t1 : wSt) (v1 : Int64) (H : Heap) (locs : List Loc) (ls : Array Slot), B (i0 + (6 : Int32), u1, t1, v1) = some 1 → wH2 D κ ρ A s.heap H locs u1 t1 v1 → lv_has ls 7 [(0, .ref b), (1, .ref (ρ 0)), (2, .ref (ρ 79)), (3, .ref (ρ 119)), (4, .int i0)] → W p l e room_1 s m #[Value.ref b] below meth c H locs (120 + 2 * t + 2) (6245 + 16 * t + 16) (lw_Z below #[Value.ref b] s) (F0 m 1556 ls [])) (hF : F_law_c8 L xs i0 u0 t0 v0 = some q) (h2 : wH2 D κ ρ A s.heap H locs u0 t0 v0) (hl : lv_has ls 7 [(0, .ref b), (1, .ref (ρ 0)), (2, .ref (ρ 79)), (3, .ref (ρ 119)), (4, .int i0)]) : W p l e room_1 s m #[Value.ref b] below meth c H locs (120 + 2 * t) (6245 + 16 * t) (lw_Z below #[Value.ref b] s) (F0 m 580 ls []) := by
  have hx := hC.1.1
  have hb := hC.1.2.1
  unfold F_law_c8 at hF
  refine lv_aload_n hx hb dL_law_580 rfl (lv_at hl 1 rfl) ?_
  refine lv_aload_n hx hb dL_law_581 rfl (lv_at hl 0 rfl) ?_
  refine lv_iload hx hb dL_law_582 (lv_at hl 4 rfl) ?_
  refine lv_iconst hx hb dL_law_584 k_iconst_1 ?_
  refine lv_iadd hx hb dL_law_585 ?_
  refine wx_sld hx hb hX hbl hbA h2 dL_law_586 hF (fun j68 hF => ?_)
  refine lv_aload_n hx hb dL_law_587 rfl (lv_at hl 0 rfl) ?_
  refine lv_iload hx hb dL_law_588 (lv_at hl 4 rfl) ?_
  refine lv_iconst hx hb dL_law_590 k_iconst_2 ?_
  refine lv_iadd hx hb dL_law_591 ?_
  refine wx_sld hx hb hX hbl hbA h2 dL_law_592 hF (fun j69 hF => ?_)
  refine wl_e0i hC h2 hl (c_X8_bread 0 (xs j68) (xs j69) rfl) y_X8_bread v_X8_bread rfl rfl m_L_63 rfl ⟨Nat.le_of_ble_eq_true rfl, Nat.le_of_ble_eq_true rfl⟩ hcs rfl (Nat.le_of_ble_eq_true rfl) dL_law_593 hF (fun r70 u71 H locs hF h2 => ?_)
  refine lv_aload_n hx hb dL_law_596 rfl (lv_at hl 2 rfl) ?_
  refine lv_aload_n hx hb dL_law_597 rfl (lv_at hl 0 rfl) ?_
  refine lv_iload hx hb dL_law_598 (lv_at hl 4 rfl) ?_
  refine lv_iconst hx hb dL_law_600 k_iconst_1 ?_
  refine lv_iadd hx hb dL_law_601 ?_
  refine wx_sld hx hb hX hbl hbA h2 dL_law_602 hF (fun j72 hF => ?_)
  refine lv_aload_n hx hb dL_law_603 rfl (lv_at hl 0 rfl) ?_
  refine lv_iload hx hb dL_law_604 (lv_at hl 4 rfl) ?_
  refine lv_iconst hx hb dL_law_606 k_iconst_2 ?_
  refine lv_iadd hx hb dL_law_607 ?_
  refine wx_sld hx hb hX hbl hbA h2 dL_law_608 hF (fun j73 hF => ?_)
  refine wl_e1i hC1 h2 hl (c_X9_bread 79 (xs j72) (xs j73) rfl) y_X9_bread v_X9_bread rfl rfl m_L_66 rfl ⟨Nat.le_of_ble_eq_true rfl, Nat.le_of_ble_eq_true rfl⟩ hcs rfl (Nat.le_of_ble_eq_true rfl) dL_law_609 hF (fun r74 t75 H locs hF h2 => ?_)
  refine lv_icmp_eq hx hb dL_law_612 (tgt := 1556) rfl (fun h => ?_) (fun h => ?_)
  rotate_left
  · have hF := wx_f h hF
    exact absurd (wJ_r hq hF) (by decide)
  have hF := wx_t h hF
  have hF := wJ_l hq hF
  refine W.widen (k := 120 + 2 * t + 2) (n := 6245 + 16 * t + 16) (by omega) (by omega) ?_
  exact hE u71 t75 v0 H locs ls hF h2 (lv_sub hl [0, 1, 2, 3, 4] rfl)
set_option maxRecDepth 100000 in
set_option maxHeartbeats 4000000 in
theorem law_c9 {p : Program} {l : Launch} {e : Env} {s : State} {m : MethodId} {below : List Frame} {meth : Method} {c : Code} {D : va_G} {κ : Nat → ClassId} {ρ : Nat → Nat} {A : Nat → Prop} {b L : Nat} {xs : Nat → Int32} {t : Nat} {i0 : Int32} {u0 t0 : wSt} {v0 : Int64} {H : Heap} {locs : List Loc} {ls : Array Slot} {q : (Int32 × wSt × wSt × Int64) ⊕ Int32} {B : Int32 × wSt × wSt × Int64 → Option Int32} (hC : wCx p m c cL_law 7 s #[Value.ref b] RL D κ 0) (hC1 : wCx p m c cL_law 7 s #[Value.ref b] RL D κ 1) (hr : meth.sig.returnType = ret) (hlk : meth.locks = false) (hX : va_X b L xs s s.heap) (hbl : b < s.heap.size) (hbA : ¬ A b) (hG : wGst p l e s m below meth c b D κ ρ A) (hq : wJP q B 1) (hcs : 120 + 2 * t ≤ room_1.cells ∧ 6245 + 16 * t ≤ room_1.slots) (hcs2 : 120 + 2 * t + 2 ≤ 1146 ∧ 6245 + 16 * t + 16 ≤ 14449) (hcs3 : 120 + 2 * t + 2 ≤ room_1.cells ∧ 6245 + 16 * t + 16 ≤ room_1.slots) (hE : ∀ (u1 t1 : wSt) (v1 : Int64) (H : Heap) (locs : List Loc) (ls : Array Slot), B (i0 + (6 : Int32), u1, t1, v1) = some 1 → wH2 D κ ρ A s.heap H locs u1 t1 v1 → lv_has ls 7 [(0, .ref b), (1, .ref (ρ 0)), (2, .ref (ρ 79)), (3, .ref (ρ 119)), (4, .int i0)] → W p l e room_1 s m #[Value.ref b] below meth c H locs (120 + 2 * t + 2) (6245 + 16 * t + 16) (lw_Z below #[Value.ref b] s) (F0 m 1556 ls [])) (hF : F_law_c9 L xs i0 u0 t0 v0 = some q) (h2 : wH2 D κ ρ A s.heap H locs u0 t0 v0) (hl : lv_has ls 7 [(0, .ref b), (1, .ref (ρ 0)), (2, .ref (ρ 79)), (3, .ref (ρ 119)), (4, .int i0)]) : W p l e room_1 s m #[Value.ref b] below meth c H locs (120 + 2 * t) (6245 + 16 * t) (lw_Z below #[Value.ref b] s) (F0 m 617 ls []) := by
  have hx := hC.1.1
  have hb := hC.1.2.1
  unfold F_law_c9 at hF
  refine lv_aload_n hx hb dL_law_617 rfl (lv_at hl 1 rfl) ?_
  refine lv_aload_n hx hb dL_law_618 rfl (lv_at hl 0 rfl) ?_
  refine lv_iload hx hb dL_law_619 (lv_at hl 4 rfl) ?_
  refine lv_iconst hx hb dL_law_621 k_iconst_1 ?_
  refine lv_iadd hx hb dL_law_622 ?_
  refine wx_sld hx hb hX hbl hbA h2 dL_law_623 hF (fun j76 hF => ?_)
  refine wl_e0i hC h2 hl (c_X8_wake 0 (xs j76) rfl) y_X8_wake v_X8_wake rfl rfl m_L_67 rfl ⟨Nat.le_of_ble_eq_true rfl, Nat.le_of_ble_eq_true rfl⟩ hcs rfl (Nat.le_of_ble_eq_true rfl) dL_law_624 hF (fun r77 u78 H locs hF h2 => ?_)
  refine lv_aload_n hx hb dL_law_627 rfl (lv_at hl 2 rfl) ?_
  refine lv_aload_n hx hb dL_law_628 rfl (lv_at hl 0 rfl) ?_
  refine lv_iload hx hb dL_law_629 (lv_at hl 4 rfl) ?_
  refine lv_iconst hx hb dL_law_631 k_iconst_1 ?_
  refine lv_iadd hx hb dL_law_632 ?_
  refine wx_sld hx hb hX hbl hbA h2 dL_law_633 hF (fun j79 hF => ?_)
  refine wl_e1i hC1 h2 hl (c_X9_wake 79 (xs j79) rfl) y_X9_wake v_X9_wake rfl rfl m_L_71 rfl ⟨Nat.le_of_ble_eq_true rfl, Nat.le_of_ble_eq_true rfl⟩ hcs rfl (Nat.le_of_ble_eq_true rfl) dL_law_634 hF (fun r80 t81 H locs hF h2 => ?_)
  refine lv_icmp_eq hx hb dL_law_637 (tgt := 1556) rfl (fun h => ?_) (fun h => ?_)
  rotate_left
  · have hF := wx_f h hF
    exact absurd (wJ_r hq hF) (by decide)
  have hF := wx_t h hF
  have hF := wJ_l hq hF
  refine W.widen (k := 120 + 2 * t + 2) (n := 6245 + 16 * t + 16) (by omega) (by omega) ?_
  exact hE u78 t81 v0 H locs ls hF h2 (lv_sub hl [0, 1, 2, 3, 4] rfl)
set_option maxRecDepth 100000 in
set_option maxHeartbeats 4000000 in
theorem law_c10 {p : Program} {l : Launch} {e : Env} {s : State} {m : MethodId} {below : List Frame} {meth : Method} {c : Code} {D : va_G} {κ : Nat → ClassId} {ρ : Nat → Nat} {A : Nat → Prop} {b L : Nat} {xs : Nat → Int32} {t : Nat} {i0 : Int32} {u0 t0 : wSt} {v0 : Int64} {H : Heap} {locs : List Loc} {ls : Array Slot} {q : (Int32 × wSt × wSt × Int64) ⊕ Int32} {B : Int32 × wSt × wSt × Int64 → Option Int32} (hC : wCx p m c cL_law 7 s #[Value.ref b] RL D κ 0) (hC1 : wCx p m c cL_law 7 s #[Value.ref b] RL D κ 1) (hr : meth.sig.returnType = ret) (hlk : meth.locks = false) (hX : va_X b L xs s s.heap) (hbl : b < s.heap.size) (hbA : ¬ A b) (hG : wGst p l e s m below meth c b D κ ρ A) (hq : wJP q B 1) (hcs : 120 + 2 * t ≤ room_1.cells ∧ 6245 + 16 * t ≤ room_1.slots) (hcs2 : 120 + 2 * t + 2 ≤ 1146 ∧ 6245 + 16 * t + 16 ≤ 14449) (hcs3 : 120 + 2 * t + 2 ≤ room_1.cells ∧ 6245 + 16 * t + 16 ≤ room_1.slots) (hE : ∀ (u1 t1 : wSt) (v1 : Int64) (H : Heap) (locs : List Loc) (ls : Array Slot), B (i0 + (6 : Int32), u1, t1, v1) = some 1 → wH2 D κ ρ A s.heap H locs u1 t1 v1 → lv_has ls 7 [(0, .ref b), (1, .ref (ρ 0)), (2, .ref (ρ 79)), (3, .ref (ρ 119)), (4, .int i0)] → W p l e room_1 s m #[Value.ref b] below meth c H locs (120 + 2 * t + 2) (6245 + 16 * t + 16) (lw_Z below #[Value.ref b] s) (F0 m 1556 ls [])) (hF : F_law_c10 L xs i0 u0 t0 v0 = some q) (h2 : wH2 D κ ρ A s.heap H locs u0 t0 v0) (hl : lv_has ls 7 [(0, .ref b), (1, .ref (ρ 0)), (2, .ref (ρ 79)), (3, .ref (ρ 119)), (4, .int i0)]) : W p l e room_1 s m #[Value.ref b] below meth c H locs (120 + 2 * t) (6245 + 16 * t) (lw_Z below #[Value.ref b] s) (F0 m 642 ls []) := by
  have hx := hC.1.1
  have hb := hC.1.2.1
  unfold F_law_c10 at hF
  refine lv_aload_n hx hb dL_law_642 rfl (lv_at hl 1 rfl) ?_
  refine lv_aload_n hx hb dL_law_643 rfl (lv_at hl 0 rfl) ?_
  refine lv_iload hx hb dL_law_644 (lv_at hl 4 rfl) ?_
  refine lv_iconst hx hb dL_law_646 k_iconst_1 ?_
  refine lv_iadd hx hb dL_law_647 ?_
  refine wx_sld hx hb hX hbl hbA h2 dL_law_648 hF (fun j82 hF => ?_)
  refine wl_e0i hC h2 hl (c_X8_go 0 (xs j82) rfl) y_X8_go v_X8_go rfl rfl m_L_72 rfl ⟨Nat.le_of_ble_eq_true rfl, Nat.le_of_ble_eq_true rfl⟩ hcs rfl (Nat.le_of_ble_eq_true rfl) dL_law_649 hF (fun r83 u84 H locs hF h2 => ?_)
  refine lv_aload_n hx hb dL_law_652 rfl (lv_at hl 2 rfl) ?_
  refine lv_aload_n hx hb dL_law_653 rfl (lv_at hl 0 rfl) ?_
  refine lv_iload hx hb dL_law_654 (lv_at hl 4 rfl) ?_
  refine lv_iconst hx hb dL_law_656 k_iconst_1 ?_
  refine lv_iadd hx hb dL_law_657 ?_
  refine wx_sld hx hb hX hbl hbA h2 dL_law_658 hF (fun j85 hF => ?_)
  refine wl_e1i hC1 h2 hl (c_X9_go 79 (xs j85) rfl) y_X9_go v_X9_go rfl rfl m_L_75 rfl ⟨Nat.le_of_ble_eq_true rfl, Nat.le_of_ble_eq_true rfl⟩ hcs rfl (Nat.le_of_ble_eq_true rfl) dL_law_659 hF (fun r86 t87 H locs hF h2 => ?_)
  refine lv_icmp_eq hx hb dL_law_662 (tgt := 1556) rfl (fun h => ?_) (fun h => ?_)
  rotate_left
  · have hF := wx_f h hF
    exact absurd (wJ_r hq hF) (by decide)
  have hF := wx_t h hF
  have hF := wJ_l hq hF
  refine W.widen (k := 120 + 2 * t + 2) (n := 6245 + 16 * t + 16) (by omega) (by omega) ?_
  exact hE u84 t87 v0 H locs ls hF h2 (lv_sub hl [0, 1, 2, 3, 4] rfl)
set_option maxRecDepth 100000 in
set_option maxHeartbeats 4000000 in
theorem law_c11 {p : Program} {l : Launch} {e : Env} {s : State} {m : MethodId} {below : List Frame} {meth : Method} {c : Code} {D : va_G} {κ : Nat → ClassId} {ρ : Nat → Nat} {A : Nat → Prop} {b L : Nat} {xs : Nat → Int32} {t : Nat} {i0 : Int32} {u0 t0 : wSt} {v0 : Int64} {H : Heap} {locs : List Loc} {ls : Array Slot} {q : (Int32 × wSt × wSt × Int64) ⊕ Int32} {B : Int32 × wSt × wSt × Int64 → Option Int32} (hC : wCx p m c cL_law 7 s #[Value.ref b] RL D κ 0) (hC1 : wCx p m c cL_law 7 s #[Value.ref b] RL D κ 1) (hr : meth.sig.returnType = ret) (hlk : meth.locks = false) (hX : va_X b L xs s s.heap) (hbl : b < s.heap.size) (hbA : ¬ A b) (hG : wGst p l e s m below meth c b D κ ρ A) (hq : wJP q B 1) (hcs : 120 + 2 * t ≤ room_1.cells ∧ 6245 + 16 * t ≤ room_1.slots) (hcs2 : 120 + 2 * t + 2 ≤ 1146 ∧ 6245 + 16 * t + 16 ≤ 14449) (hcs3 : 120 + 2 * t + 2 ≤ room_1.cells ∧ 6245 + 16 * t + 16 ≤ room_1.slots) (hE : ∀ (u1 t1 : wSt) (v1 : Int64) (H : Heap) (locs : List Loc) (ls : Array Slot), B (i0 + (6 : Int32), u1, t1, v1) = some 1 → wH2 D κ ρ A s.heap H locs u1 t1 v1 → lv_has ls 7 [(0, .ref b), (1, .ref (ρ 0)), (2, .ref (ρ 79)), (3, .ref (ρ 119)), (4, .int i0)] → W p l e room_1 s m #[Value.ref b] below meth c H locs (120 + 2 * t + 2) (6245 + 16 * t + 16) (lw_Z below #[Value.ref b] s) (F0 m 1556 ls [])) (hF : F_law_c11 L xs i0 u0 t0 v0 = some q) (h2 : wH2 D κ ρ A s.heap H locs u0 t0 v0) (hl : lv_has ls 7 [(0, .ref b), (1, .ref (ρ 0)), (2, .ref (ρ 79)), (3, .ref (ρ 119)), (4, .int i0)]) : W p l e room_1 s m #[Value.ref b] below meth c H locs (120 + 2 * t) (6245 + 16 * t) (lw_Z below #[Value.ref b] s) (F0 m 667 ls []) := by
  have hx := hC.1.1
  have hb := hC.1.2.1
  unfold F_law_c11 at hF
  refine lv_aload_n hx hb dL_law_667 rfl (lv_at hl 1 rfl) ?_
  refine lv_aload_n hx hb dL_law_668 rfl (lv_at hl 0 rfl) ?_
  refine lv_iload hx hb dL_law_669 (lv_at hl 4 rfl) ?_
  refine lv_iconst hx hb dL_law_671 k_iconst_1 ?_
  refine lv_iadd hx hb dL_law_672 ?_
  refine wx_sld hx hb hX hbl hbA h2 dL_law_673 hF (fun j88 hF => ?_)
  refine lv_aload_n hx hb dL_law_674 rfl (lv_at hl 0 rfl) ?_
  refine lv_iload hx hb dL_law_675 (lv_at hl 4 rfl) ?_
  refine lv_iconst hx hb dL_law_677 k_iconst_2 ?_
  refine lv_iadd hx hb dL_law_678 ?_
  refine wx_sld hx hb hX hbl hbA h2 dL_law_679 hF (fun j89 hF => ?_)
  refine lv_aload_n hx hb dL_law_680 rfl (lv_at hl 0 rfl) ?_
  refine lv_iload hx hb dL_law_681 (lv_at hl 4 rfl) ?_
  refine lv_iconst hx hb dL_law_683 k_iconst_3 ?_
  refine lv_iadd hx hb dL_law_684 ?_
  refine wx_sld hx hb hX hbl hbA h2 dL_law_685 hF (fun j90 hF => ?_)
  refine wl_e0i hC h2 hl (c_X8_ahead 0 (xs j88) (xs j89) (xs j90) rfl) y_X8_ahead v_X8_ahead rfl rfl m_L_76 rfl ⟨Nat.le_of_ble_eq_true rfl, Nat.le_of_ble_eq_true rfl⟩ hcs rfl (Nat.le_of_ble_eq_true rfl) dL_law_686 hF (fun r91 u92 H locs hF h2 => ?_)
  refine lv_aload_n hx hb dL_law_689 rfl (lv_at hl 2 rfl) ?_
  refine lv_aload_n hx hb dL_law_690 rfl (lv_at hl 0 rfl) ?_
  refine lv_iload hx hb dL_law_691 (lv_at hl 4 rfl) ?_
  refine lv_iconst hx hb dL_law_693 k_iconst_1 ?_
  refine lv_iadd hx hb dL_law_694 ?_
  refine wx_sld hx hb hX hbl hbA h2 dL_law_695 hF (fun j93 hF => ?_)
  refine lv_aload_n hx hb dL_law_696 rfl (lv_at hl 0 rfl) ?_
  refine lv_iload hx hb dL_law_697 (lv_at hl 4 rfl) ?_
  refine lv_iconst hx hb dL_law_699 k_iconst_2 ?_
  refine lv_iadd hx hb dL_law_700 ?_
  refine wx_sld hx hb hX hbl hbA h2 dL_law_701 hF (fun j94 hF => ?_)
  refine lv_aload_n hx hb dL_law_702 rfl (lv_at hl 0 rfl) ?_
  refine lv_iload hx hb dL_law_703 (lv_at hl 4 rfl) ?_
  refine lv_iconst hx hb dL_law_705 k_iconst_3 ?_
  refine lv_iadd hx hb dL_law_706 ?_
  refine wx_sld hx hb hX hbl hbA h2 dL_law_707 hF (fun j95 hF => ?_)
  refine wl_e1i hC1 h2 hl (c_X9_ahead 79 (xs j93) (xs j94) (xs j95) rfl) y_X9_ahead v_X9_ahead rfl rfl m_L_80 rfl ⟨Nat.le_of_ble_eq_true rfl, Nat.le_of_ble_eq_true rfl⟩ hcs rfl (Nat.le_of_ble_eq_true rfl) dL_law_708 hF (fun r96 t97 H locs hF h2 => ?_)
  refine lv_icmp_eq hx hb dL_law_711 (tgt := 1556) rfl (fun h => ?_) (fun h => ?_)
  rotate_left
  · have hF := wx_f h hF
    exact absurd (wJ_r hq hF) (by decide)
  have hF := wx_t h hF
  have hF := wJ_l hq hF
  refine W.widen (k := 120 + 2 * t + 2) (n := 6245 + 16 * t + 16) (by omega) (by omega) ?_
  exact hE u92 t97 v0 H locs ls hF h2 (lv_sub hl [0, 1, 2, 3, 4] rfl)
set_option maxRecDepth 100000 in
set_option maxHeartbeats 4000000 in
theorem law_c12 {p : Program} {l : Launch} {e : Env} {s : State} {m : MethodId} {below : List Frame} {meth : Method} {c : Code} {D : va_G} {κ : Nat → ClassId} {ρ : Nat → Nat} {A : Nat → Prop} {b L : Nat} {xs : Nat → Int32} {t : Nat} {i0 : Int32} {u0 t0 : wSt} {v0 : Int64} {H : Heap} {locs : List Loc} {ls : Array Slot} {q : (Int32 × wSt × wSt × Int64) ⊕ Int32} {B : Int32 × wSt × wSt × Int64 → Option Int32} (hC : wCx p m c cL_law 7 s #[Value.ref b] RL D κ 0) (hC1 : wCx p m c cL_law 7 s #[Value.ref b] RL D κ 1) (hr : meth.sig.returnType = ret) (hlk : meth.locks = false) (hX : va_X b L xs s s.heap) (hbl : b < s.heap.size) (hbA : ¬ A b) (hG : wGst p l e s m below meth c b D κ ρ A) (hq : wJP q B 1) (hcs : 120 + 2 * t ≤ room_1.cells ∧ 6245 + 16 * t ≤ room_1.slots) (hcs2 : 120 + 2 * t + 2 ≤ 1146 ∧ 6245 + 16 * t + 16 ≤ 14449) (hcs3 : 120 + 2 * t + 2 ≤ room_1.cells ∧ 6245 + 16 * t + 16 ≤ room_1.slots) (hE : ∀ (u1 t1 : wSt) (v1 : Int64) (H : Heap) (locs : List Loc) (ls : Array Slot), B (i0 + (6 : Int32), u1, t1, v1) = some 1 → wH2 D κ ρ A s.heap H locs u1 t1 v1 → lv_has ls 7 [(0, .ref b), (1, .ref (ρ 0)), (2, .ref (ρ 79)), (3, .ref (ρ 119)), (4, .int i0)] → W p l e room_1 s m #[Value.ref b] below meth c H locs (120 + 2 * t + 2) (6245 + 16 * t + 16) (lw_Z below #[Value.ref b] s) (F0 m 1556 ls [])) (hF : F_law_c12 L xs i0 u0 t0 v0 = some q) (h2 : wH2 D κ ρ A s.heap H locs u0 t0 v0) (hl : lv_has ls 7 [(0, .ref b), (1, .ref (ρ 0)), (2, .ref (ρ 79)), (3, .ref (ρ 119)), (4, .int i0)]) : W p l e room_1 s m #[Value.ref b] below meth c H locs (120 + 2 * t) (6245 + 16 * t) (lw_Z below #[Value.ref b] s) (F0 m 716 ls []) := by
  have hx := hC.1.1
  have hb := hC.1.2.1
  unfold F_law_c12 at hF
  refine lv_aload_n hx hb dL_law_716 rfl (lv_at hl 1 rfl) ?_
  refine lv_aload_n hx hb dL_law_717 rfl (lv_at hl 0 rfl) ?_
  refine lv_iload hx hb dL_law_718 (lv_at hl 4 rfl) ?_
  refine lv_iconst hx hb dL_law_720 k_iconst_1 ?_
  refine lv_iadd hx hb dL_law_721 ?_
  refine wx_sld hx hb hX hbl hbA h2 dL_law_722 hF (fun j98 hF => ?_)
  refine wl_e0i hC h2 hl (c_X8_swoon 0 (xs j98) rfl) y_X8_swoon v_X8_swoon rfl rfl m_L_81 rfl ⟨Nat.le_of_ble_eq_true rfl, Nat.le_of_ble_eq_true rfl⟩ hcs rfl (Nat.le_of_ble_eq_true rfl) dL_law_723 hF (fun r99 u100 H locs hF h2 => ?_)
  refine lv_aload_n hx hb dL_law_726 rfl (lv_at hl 2 rfl) ?_
  refine lv_aload_n hx hb dL_law_727 rfl (lv_at hl 0 rfl) ?_
  refine lv_iload hx hb dL_law_728 (lv_at hl 4 rfl) ?_
  refine lv_iconst hx hb dL_law_730 k_iconst_1 ?_
  refine lv_iadd hx hb dL_law_731 ?_
  refine wx_sld hx hb hX hbl hbA h2 dL_law_732 hF (fun j101 hF => ?_)
  refine wl_e1i hC1 h2 hl (c_X9_swoon 79 (xs j101) rfl) y_X9_swoon v_X9_swoon rfl rfl m_L_84 rfl ⟨Nat.le_of_ble_eq_true rfl, Nat.le_of_ble_eq_true rfl⟩ hcs rfl (Nat.le_of_ble_eq_true rfl) dL_law_733 hF (fun r102 t103 H locs hF h2 => ?_)
  refine lv_icmp_eq hx hb dL_law_736 (tgt := 1556) rfl (fun h => ?_) (fun h => ?_)
  rotate_left
  · have hF := wx_f h hF
    exact absurd (wJ_r hq hF) (by decide)
  have hF := wx_t h hF
  have hF := wJ_l hq hF
  refine W.widen (k := 120 + 2 * t + 2) (n := 6245 + 16 * t + 16) (by omega) (by omega) ?_
  exact hE u100 t103 v0 H locs ls hF h2 (lv_sub hl [0, 1, 2, 3, 4] rfl)
set_option maxRecDepth 100000 in
set_option maxHeartbeats 4000000 in
theorem law_c13 {p : Program} {l : Launch} {e : Env} {s : State} {m : MethodId} {below : List Frame} {meth : Method} {c : Code} {D : va_G} {κ : Nat → ClassId} {ρ : Nat → Nat} {A : Nat → Prop} {b L : Nat} {xs : Nat → Int32} {t : Nat} {i0 : Int32} {u0 t0 : wSt} {v0 : Int64} {H : Heap} {locs : List Loc} {ls : Array Slot} {q : (Int32 × wSt × wSt × Int64) ⊕ Int32} {B : Int32 × wSt × wSt × Int64 → Option Int32} (hC : wCx p m c cL_law 7 s #[Value.ref b] RL D κ 0) (hC1 : wCx p m c cL_law 7 s #[Value.ref b] RL D κ 1) (hr : meth.sig.returnType = ret) (hlk : meth.locks = false) (hX : va_X b L xs s s.heap) (hbl : b < s.heap.size) (hbA : ¬ A b) (hG : wGst p l e s m below meth c b D κ ρ A) (hq : wJP q B 1) (hcs : 120 + 2 * t ≤ room_1.cells ∧ 6245 + 16 * t ≤ room_1.slots) (hcs2 : 120 + 2 * t + 2 ≤ 1146 ∧ 6245 + 16 * t + 16 ≤ 14449) (hcs3 : 120 + 2 * t + 2 ≤ room_1.cells ∧ 6245 + 16 * t + 16 ≤ room_1.slots) (hE : ∀ (u1 t1 : wSt) (v1 : Int64) (H : Heap) (locs : List Loc) (ls : Array Slot), B (i0 + (6 : Int32), u1, t1, v1) = some 1 → wH2 D κ ρ A s.heap H locs u1 t1 v1 → lv_has ls 7 [(0, .ref b), (1, .ref (ρ 0)), (2, .ref (ρ 79)), (3, .ref (ρ 119)), (4, .int i0)] → W p l e room_1 s m #[Value.ref b] below meth c H locs (120 + 2 * t + 2) (6245 + 16 * t + 16) (lw_Z below #[Value.ref b] s) (F0 m 1556 ls [])) (hF : F_law_c13 L xs i0 u0 t0 v0 = some q) (h2 : wH2 D κ ρ A s.heap H locs u0 t0 v0) (hl : lv_has ls 7 [(0, .ref b), (1, .ref (ρ 0)), (2, .ref (ρ 79)), (3, .ref (ρ 119)), (4, .int i0)]) : W p l e room_1 s m #[Value.ref b] below meth c H locs (120 + 2 * t) (6245 + 16 * t) (lw_Z below #[Value.ref b] s) (F0 m 741 ls []) := by
  have hx := hC.1.1
  have hb := hC.1.2.1
  unfold F_law_c13 at hF
  refine lv_aload_n hx hb dL_law_741 rfl (lv_at hl 1 rfl) ?_
  refine lv_aload_n hx hb dL_law_742 rfl (lv_at hl 0 rfl) ?_
  refine lv_iload hx hb dL_law_743 (lv_at hl 4 rfl) ?_
  refine lv_iconst hx hb dL_law_745 k_iconst_1 ?_
  refine lv_iadd hx hb dL_law_746 ?_
  refine wx_sld hx hb hX hbl hbA h2 dL_law_747 hF (fun j104 hF => ?_)
  refine wl_e0i hC h2 hl (c_X8_nextBite 0 (xs j104) rfl) y_X8_nextBite v_X8_nextBite rfl rfl m_L_85 rfl ⟨Nat.le_of_ble_eq_true rfl, Nat.le_of_ble_eq_true rfl⟩ hcs rfl (Nat.le_of_ble_eq_true rfl) dL_law_748 hF (fun r105 u106 H locs hF h2 => ?_)
  refine lv_aload_n hx hb dL_law_751 rfl (lv_at hl 2 rfl) ?_
  refine lv_aload_n hx hb dL_law_752 rfl (lv_at hl 0 rfl) ?_
  refine lv_iload hx hb dL_law_753 (lv_at hl 4 rfl) ?_
  refine lv_iconst hx hb dL_law_755 k_iconst_1 ?_
  refine lv_iadd hx hb dL_law_756 ?_
  refine wx_sld hx hb hX hbl hbA h2 dL_law_757 hF (fun j107 hF => ?_)
  refine wl_e1i hC1 h2 hl (c_X9_nextBite 79 (xs j107) rfl) y_X9_nextBite v_X9_nextBite rfl rfl m_L_88 rfl ⟨Nat.le_of_ble_eq_true rfl, Nat.le_of_ble_eq_true rfl⟩ hcs rfl (Nat.le_of_ble_eq_true rfl) dL_law_758 hF (fun r108 t109 H locs hF h2 => ?_)
  refine lv_icmp_eq hx hb dL_law_761 (tgt := 1556) rfl (fun h => ?_) (fun h => ?_)
  rotate_left
  · have hF := wx_f h hF
    exact absurd (wJ_r hq hF) (by decide)
  have hF := wx_t h hF
  have hF := wJ_l hq hF
  refine W.widen (k := 120 + 2 * t + 2) (n := 6245 + 16 * t + 16) (by omega) (by omega) ?_
  exact hE u106 t109 v0 H locs ls hF h2 (lv_sub hl [0, 1, 2, 3, 4] rfl)
set_option maxRecDepth 100000 in
set_option maxHeartbeats 4000000 in
theorem law_c14 {p : Program} {l : Launch} {e : Env} {s : State} {m : MethodId} {below : List Frame} {meth : Method} {c : Code} {D : va_G} {κ : Nat → ClassId} {ρ : Nat → Nat} {A : Nat → Prop} {b L : Nat} {xs : Nat → Int32} {t : Nat} {i0 : Int32} {u0 t0 : wSt} {v0 : Int64} {H : Heap} {locs : List Loc} {ls : Array Slot} {q : (Int32 × wSt × wSt × Int64) ⊕ Int32} {B : Int32 × wSt × wSt × Int64 → Option Int32} (hC : wCx p m c cL_law 7 s #[Value.ref b] RL D κ 0) (hC1 : wCx p m c cL_law 7 s #[Value.ref b] RL D κ 1) (hr : meth.sig.returnType = ret) (hlk : meth.locks = false) (hX : va_X b L xs s s.heap) (hbl : b < s.heap.size) (hbA : ¬ A b) (hG : wGst p l e s m below meth c b D κ ρ A) (hq : wJP q B 1) (hcs : 120 + 2 * t ≤ room_1.cells ∧ 6245 + 16 * t ≤ room_1.slots) (hcs2 : 120 + 2 * t + 2 ≤ 1146 ∧ 6245 + 16 * t + 16 ≤ 14449) (hcs3 : 120 + 2 * t + 2 ≤ room_1.cells ∧ 6245 + 16 * t + 16 ≤ room_1.slots) (hE : ∀ (u1 t1 : wSt) (v1 : Int64) (H : Heap) (locs : List Loc) (ls : Array Slot), B (i0 + (6 : Int32), u1, t1, v1) = some 1 → wH2 D κ ρ A s.heap H locs u1 t1 v1 → lv_has ls 7 [(0, .ref b), (1, .ref (ρ 0)), (2, .ref (ρ 79)), (3, .ref (ρ 119)), (4, .int i0)] → W p l e room_1 s m #[Value.ref b] below meth c H locs (120 + 2 * t + 2) (6245 + 16 * t + 16) (lw_Z below #[Value.ref b] s) (F0 m 1556 ls [])) (hF : F_law_c14 L xs i0 u0 t0 v0 = some q) (h2 : wH2 D κ ρ A s.heap H locs u0 t0 v0) (hl : lv_has ls 7 [(0, .ref b), (1, .ref (ρ 0)), (2, .ref (ρ 79)), (3, .ref (ρ 119)), (4, .int i0)]) : W p l e room_1 s m #[Value.ref b] below meth c H locs (120 + 2 * t) (6245 + 16 * t) (lw_Z below #[Value.ref b] s) (F0 m 766 ls []) := by
  have hx := hC.1.1
  have hb := hC.1.2.1
  unfold F_law_c14 at hF
  refine lv_aload_n hx hb dL_law_766 rfl (lv_at hl 1 rfl) ?_
  refine lv_aload_n hx hb dL_law_767 rfl (lv_at hl 0 rfl) ?_
  refine lv_iload hx hb dL_law_768 (lv_at hl 4 rfl) ?_
  refine lv_iconst hx hb dL_law_770 k_iconst_1 ?_
  refine lv_iadd hx hb dL_law_771 ?_
  refine wx_sld hx hb hX hbl hbA h2 dL_law_772 hF (fun j110 hF => ?_)
  refine wl_e0i hC h2 hl (c_X8_table 0 (xs j110) rfl) y_X8_table v_X8_table rfl rfl m_L_89 rfl ⟨Nat.le_of_ble_eq_true rfl, Nat.le_of_ble_eq_true rfl⟩ hcs rfl (Nat.le_of_ble_eq_true rfl) dL_law_773 hF (fun r111 u112 H locs hF h2 => ?_)
  refine lv_aload_n hx hb dL_law_776 rfl (lv_at hl 2 rfl) ?_
  refine lv_aload_n hx hb dL_law_777 rfl (lv_at hl 0 rfl) ?_
  refine lv_iload hx hb dL_law_778 (lv_at hl 4 rfl) ?_
  refine lv_iconst hx hb dL_law_780 k_iconst_1 ?_
  refine lv_iadd hx hb dL_law_781 ?_
  refine wx_sld hx hb hX hbl hbA h2 dL_law_782 hF (fun j113 hF => ?_)
  refine wl_e1i hC1 h2 hl (c_X9_table 79 (xs j113) rfl) y_X9_table v_X9_table rfl rfl m_L_92 rfl ⟨Nat.le_of_ble_eq_true rfl, Nat.le_of_ble_eq_true rfl⟩ hcs rfl (Nat.le_of_ble_eq_true rfl) dL_law_783 hF (fun r114 t115 H locs hF h2 => ?_)
  refine lv_icmp_eq hx hb dL_law_786 (tgt := 1556) rfl (fun h => ?_) (fun h => ?_)
  rotate_left
  · have hF := wx_f h hF
    exact absurd (wJ_r hq hF) (by decide)
  have hF := wx_t h hF
  have hF := wJ_l hq hF
  refine W.widen (k := 120 + 2 * t + 2) (n := 6245 + 16 * t + 16) (by omega) (by omega) ?_
  exact hE u112 t115 v0 H locs ls hF h2 (lv_sub hl [0, 1, 2, 3, 4] rfl)
set_option maxRecDepth 100000 in
set_option maxHeartbeats 4000000 in
theorem law_c15 {p : Program} {l : Launch} {e : Env} {s : State} {m : MethodId} {below : List Frame} {meth : Method} {c : Code} {D : va_G} {κ : Nat → ClassId} {ρ : Nat → Nat} {A : Nat → Prop} {b L : Nat} {xs : Nat → Int32} {t : Nat} {i0 : Int32} {u0 t0 : wSt} {v0 : Int64} {H : Heap} {locs : List Loc} {ls : Array Slot} {q : (Int32 × wSt × wSt × Int64) ⊕ Int32} {B : Int32 × wSt × wSt × Int64 → Option Int32} (hC : wCx p m c cL_law 7 s #[Value.ref b] RL D κ 0) (hC1 : wCx p m c cL_law 7 s #[Value.ref b] RL D κ 1) (hr : meth.sig.returnType = ret) (hlk : meth.locks = false) (hX : va_X b L xs s s.heap) (hbl : b < s.heap.size) (hbA : ¬ A b) (hG : wGst p l e s m below meth c b D κ ρ A) (hq : wJP q B 1) (hcs : 120 + 2 * t ≤ room_1.cells ∧ 6245 + 16 * t ≤ room_1.slots) (hcs2 : 120 + 2 * t + 2 ≤ 1146 ∧ 6245 + 16 * t + 16 ≤ 14449) (hcs3 : 120 + 2 * t + 2 ≤ room_1.cells ∧ 6245 + 16 * t + 16 ≤ room_1.slots) (hE : ∀ (u1 t1 : wSt) (v1 : Int64) (H : Heap) (locs : List Loc) (ls : Array Slot), B (i0 + (6 : Int32), u1, t1, v1) = some 1 → wH2 D κ ρ A s.heap H locs u1 t1 v1 → lv_has ls 7 [(0, .ref b), (1, .ref (ρ 0)), (2, .ref (ρ 79)), (3, .ref (ρ 119)), (4, .int i0)] → W p l e room_1 s m #[Value.ref b] below meth c H locs (120 + 2 * t + 2) (6245 + 16 * t + 16) (lw_Z below #[Value.ref b] s) (F0 m 1556 ls [])) (hF : F_law_c15 L xs i0 u0 t0 v0 = some q) (h2 : wH2 D κ ρ A s.heap H locs u0 t0 v0) (hl : lv_has ls 7 [(0, .ref b), (1, .ref (ρ 0)), (2, .ref (ρ 79)), (3, .ref (ρ 119)), (4, .int i0)]) : W p l e room_1 s m #[Value.ref b] below meth c H locs (120 + 2 * t) (6245 + 16 * t) (lw_Z below #[Value.ref b] s) (F0 m 791 ls []) := by
  have hx := hC.1.1
  have hb := hC.1.2.1
  unfold F_law_c15 at hF
  refine lv_aload_n hx hb dL_law_791 rfl (lv_at hl 1 rfl) ?_
  refine wl_e0i hC h2 hl (c_X8_hold 0 rfl) y_X8_hold v_X8_hold rfl rfl m_L_93 rfl ⟨Nat.le_of_ble_eq_true rfl, Nat.le_of_ble_eq_true rfl⟩ hcs rfl (Nat.le_of_ble_eq_true rfl) dL_law_792 hF (fun r116 u117 H locs hF h2 => ?_)
  refine lv_aload_n hx hb dL_law_795 rfl (lv_at hl 2 rfl) ?_
  refine wl_e1i hC1 h2 hl (c_X9_hold 79 rfl) y_X9_hold v_X9_hold rfl rfl m_L_96 rfl ⟨Nat.le_of_ble_eq_true rfl, Nat.le_of_ble_eq_true rfl⟩ hcs rfl (Nat.le_of_ble_eq_true rfl) dL_law_796 hF (fun r118 t119 H locs hF h2 => ?_)
  refine lv_icmp_eq hx hb dL_law_799 (tgt := 1556) rfl (fun h => ?_) (fun h => ?_)
  rotate_left
  · have hF := wx_f h hF
    exact absurd (wJ_r hq hF) (by decide)
  have hF := wx_t h hF
  have hF := wJ_l hq hF
  refine W.widen (k := 120 + 2 * t + 2) (n := 6245 + 16 * t + 16) (by omega) (by omega) ?_
  exact hE u117 t119 v0 H locs ls hF h2 (lv_sub hl [0, 1, 2, 3, 4] rfl)
set_option maxRecDepth 100000 in
set_option maxHeartbeats 4000000 in
theorem law_c16 {p : Program} {l : Launch} {e : Env} {s : State} {m : MethodId} {below : List Frame} {meth : Method} {c : Code} {D : va_G} {κ : Nat → ClassId} {ρ : Nat → Nat} {A : Nat → Prop} {b L : Nat} {xs : Nat → Int32} {t : Nat} {i0 : Int32} {u0 t0 : wSt} {v0 : Int64} {H : Heap} {locs : List Loc} {ls : Array Slot} {q : (Int32 × wSt × wSt × Int64) ⊕ Int32} {B : Int32 × wSt × wSt × Int64 → Option Int32} (hC : wCx p m c cL_law 7 s #[Value.ref b] RL D κ 0) (hC1 : wCx p m c cL_law 7 s #[Value.ref b] RL D κ 1) (hr : meth.sig.returnType = ret) (hlk : meth.locks = false) (hX : va_X b L xs s s.heap) (hbl : b < s.heap.size) (hbA : ¬ A b) (hG : wGst p l e s m below meth c b D κ ρ A) (hq : wJP q B 1) (hcs : 120 + 2 * t ≤ room_1.cells ∧ 6245 + 16 * t ≤ room_1.slots) (hcs2 : 120 + 2 * t + 2 ≤ 1146 ∧ 6245 + 16 * t + 16 ≤ 14449) (hcs3 : 120 + 2 * t + 2 ≤ room_1.cells ∧ 6245 + 16 * t + 16 ≤ room_1.slots) (hE : ∀ (u1 t1 : wSt) (v1 : Int64) (H : Heap) (locs : List Loc) (ls : Array Slot), B (i0 + (6 : Int32), u1, t1, v1) = some 1 → wH2 D κ ρ A s.heap H locs u1 t1 v1 → lv_has ls 7 [(0, .ref b), (1, .ref (ρ 0)), (2, .ref (ρ 79)), (3, .ref (ρ 119)), (4, .int i0)] → W p l e room_1 s m #[Value.ref b] below meth c H locs (120 + 2 * t + 2) (6245 + 16 * t + 16) (lw_Z below #[Value.ref b] s) (F0 m 1556 ls [])) (hF : F_law_c16 L xs i0 u0 t0 v0 = some q) (h2 : wH2 D κ ρ A s.heap H locs u0 t0 v0) (hl : lv_has ls 7 [(0, .ref b), (1, .ref (ρ 0)), (2, .ref (ρ 79)), (3, .ref (ρ 119)), (4, .int i0)]) : W p l e room_1 s m #[Value.ref b] below meth c H locs (120 + 2 * t) (6245 + 16 * t) (lw_Z below #[Value.ref b] s) (F0 m 804 ls []) := by
  have hx := hC.1.1
  have hb := hC.1.2.1
  unfold F_law_c16 at hF
  refine lv_aload_n hx hb dL_law_804 rfl (lv_at hl 1 rfl) ?_
  refine wl_e0i hC h2 hl (c_X8_calm 0 rfl) y_X8_calm v_X8_calm rfl rfl m_L_97 rfl ⟨Nat.le_of_ble_eq_true rfl, Nat.le_of_ble_eq_true rfl⟩ hcs rfl (Nat.le_of_ble_eq_true rfl) dL_law_805 hF (fun r120 u121 H locs hF h2 => ?_)
  refine lv_aload_n hx hb dL_law_808 rfl (lv_at hl 2 rfl) ?_
  refine wl_e1i hC1 h2 hl (c_X9_calm 79 rfl) y_X9_calm v_X9_calm rfl rfl m_L_100 rfl ⟨Nat.le_of_ble_eq_true rfl, Nat.le_of_ble_eq_true rfl⟩ hcs rfl (Nat.le_of_ble_eq_true rfl) dL_law_809 hF (fun r122 t123 H locs hF h2 => ?_)
  refine lv_icmp_eq hx hb dL_law_812 (tgt := 1556) rfl (fun h => ?_) (fun h => ?_)
  rotate_left
  · have hF := wx_f h hF
    exact absurd (wJ_r hq hF) (by decide)
  have hF := wx_t h hF
  have hF := wJ_l hq hF
  refine W.widen (k := 120 + 2 * t + 2) (n := 6245 + 16 * t + 16) (by omega) (by omega) ?_
  exact hE u121 t123 v0 H locs ls hF h2 (lv_sub hl [0, 1, 2, 3, 4] rfl)
set_option maxRecDepth 100000 in
set_option maxHeartbeats 4000000 in
theorem law_c17 {p : Program} {l : Launch} {e : Env} {s : State} {m : MethodId} {below : List Frame} {meth : Method} {c : Code} {D : va_G} {κ : Nat → ClassId} {ρ : Nat → Nat} {A : Nat → Prop} {b L : Nat} {xs : Nat → Int32} {t : Nat} {i0 : Int32} {u0 t0 : wSt} {v0 : Int64} {H : Heap} {locs : List Loc} {ls : Array Slot} {q : (Int32 × wSt × wSt × Int64) ⊕ Int32} {B : Int32 × wSt × wSt × Int64 → Option Int32} (hC : wCx p m c cL_law 7 s #[Value.ref b] RL D κ 0) (hC1 : wCx p m c cL_law 7 s #[Value.ref b] RL D κ 1) (hr : meth.sig.returnType = ret) (hlk : meth.locks = false) (hX : va_X b L xs s s.heap) (hbl : b < s.heap.size) (hbA : ¬ A b) (hG : wGst p l e s m below meth c b D κ ρ A) (hq : wJP q B 1) (hcs : 120 + 2 * t ≤ room_1.cells ∧ 6245 + 16 * t ≤ room_1.slots) (hcs2 : 120 + 2 * t + 2 ≤ 1146 ∧ 6245 + 16 * t + 16 ≤ 14449) (hcs3 : 120 + 2 * t + 2 ≤ room_1.cells ∧ 6245 + 16 * t + 16 ≤ room_1.slots) (hE : ∀ (u1 t1 : wSt) (v1 : Int64) (H : Heap) (locs : List Loc) (ls : Array Slot), B (i0 + (6 : Int32), u1, t1, v1) = some 1 → wH2 D κ ρ A s.heap H locs u1 t1 v1 → lv_has ls 7 [(0, .ref b), (1, .ref (ρ 0)), (2, .ref (ρ 79)), (3, .ref (ρ 119)), (4, .int i0)] → W p l e room_1 s m #[Value.ref b] below meth c H locs (120 + 2 * t + 2) (6245 + 16 * t + 16) (lw_Z below #[Value.ref b] s) (F0 m 1556 ls [])) (hF : F_law_c17 L xs i0 u0 t0 v0 = some q) (h2 : wH2 D κ ρ A s.heap H locs u0 t0 v0) (hl : lv_has ls 7 [(0, .ref b), (1, .ref (ρ 0)), (2, .ref (ρ 79)), (3, .ref (ρ 119)), (4, .int i0)]) : W p l e room_1 s m #[Value.ref b] below meth c H locs (120 + 2 * t) (6245 + 16 * t) (lw_Z below #[Value.ref b] s) (F0 m 817 ls []) := by
  have hx := hC.1.1
  have hb := hC.1.2.1
  unfold F_law_c17 at hF
  refine lv_aload_n hx hb dL_law_817 rfl (lv_at hl 1 rfl) ?_
  refine lv_aload_n hx hb dL_law_818 rfl (lv_at hl 0 rfl) ?_
  refine lv_iload hx hb dL_law_819 (lv_at hl 4 rfl) ?_
  refine lv_iconst hx hb dL_law_821 k_iconst_1 ?_
  refine lv_iadd hx hb dL_law_822 ?_
  refine wx_sld hx hb hX hbl hbA h2 dL_law_823 hF (fun j124 hF => ?_)
  refine wl_e0i hC h2 hl (c_X8_bestFed 0 (xs j124) rfl) y_X8_bestFed v_X8_bestFed rfl rfl m_L_101 rfl ⟨Nat.le_of_ble_eq_true rfl, Nat.le_of_ble_eq_true rfl⟩ hcs rfl (Nat.le_of_ble_eq_true rfl) dL_law_824 hF (fun r125 u126 H locs hF h2 => ?_)
  refine lv_aload_n hx hb dL_law_827 rfl (lv_at hl 2 rfl) ?_
  refine lv_aload_n hx hb dL_law_828 rfl (lv_at hl 0 rfl) ?_
  refine lv_iload hx hb dL_law_829 (lv_at hl 4 rfl) ?_
  refine lv_iconst hx hb dL_law_831 k_iconst_1 ?_
  refine lv_iadd hx hb dL_law_832 ?_
  refine wx_sld hx hb hX hbl hbA h2 dL_law_833 hF (fun j127 hF => ?_)
  refine wl_e1i hC1 h2 hl (c_X9_bestFed 79 (xs j127) rfl) y_X9_bestFed v_X9_bestFed rfl rfl m_L_104 rfl ⟨Nat.le_of_ble_eq_true rfl, Nat.le_of_ble_eq_true rfl⟩ hcs rfl (Nat.le_of_ble_eq_true rfl) dL_law_834 hF (fun r128 t129 H locs hF h2 => ?_)
  refine lv_icmp_eq hx hb dL_law_837 (tgt := 1556) rfl (fun h => ?_) (fun h => ?_)
  rotate_left
  · have hF := wx_f h hF
    exact absurd (wJ_r hq hF) (by decide)
  have hF := wx_t h hF
  have hF := wJ_l hq hF
  refine W.widen (k := 120 + 2 * t + 2) (n := 6245 + 16 * t + 16) (by omega) (by omega) ?_
  exact hE u126 t129 v0 H locs ls hF h2 (lv_sub hl [0, 1, 2, 3, 4] rfl)
set_option maxRecDepth 100000 in
set_option maxHeartbeats 4000000 in
theorem law_c18 {p : Program} {l : Launch} {e : Env} {s : State} {m : MethodId} {below : List Frame} {meth : Method} {c : Code} {D : va_G} {κ : Nat → ClassId} {ρ : Nat → Nat} {A : Nat → Prop} {b L : Nat} {xs : Nat → Int32} {t : Nat} {i0 : Int32} {u0 t0 : wSt} {v0 : Int64} {H : Heap} {locs : List Loc} {ls : Array Slot} {q : (Int32 × wSt × wSt × Int64) ⊕ Int32} {B : Int32 × wSt × wSt × Int64 → Option Int32} (hC : wCx p m c cL_law 7 s #[Value.ref b] RL D κ 0) (hC1 : wCx p m c cL_law 7 s #[Value.ref b] RL D κ 1) (hr : meth.sig.returnType = ret) (hlk : meth.locks = false) (hX : va_X b L xs s s.heap) (hbl : b < s.heap.size) (hbA : ¬ A b) (hG : wGst p l e s m below meth c b D κ ρ A) (hq : wJP q B 1) (hcs : 120 + 2 * t ≤ room_1.cells ∧ 6245 + 16 * t ≤ room_1.slots) (hcs2 : 120 + 2 * t + 2 ≤ 1146 ∧ 6245 + 16 * t + 16 ≤ 14449) (hcs3 : 120 + 2 * t + 2 ≤ room_1.cells ∧ 6245 + 16 * t + 16 ≤ room_1.slots) (hE : ∀ (u1 t1 : wSt) (v1 : Int64) (H : Heap) (locs : List Loc) (ls : Array Slot), B (i0 + (6 : Int32), u1, t1, v1) = some 1 → wH2 D κ ρ A s.heap H locs u1 t1 v1 → lv_has ls 7 [(0, .ref b), (1, .ref (ρ 0)), (2, .ref (ρ 79)), (3, .ref (ρ 119)), (4, .int i0)] → W p l e room_1 s m #[Value.ref b] below meth c H locs (120 + 2 * t + 2) (6245 + 16 * t + 16) (lw_Z below #[Value.ref b] s) (F0 m 1556 ls [])) (hF : F_law_c18 L xs i0 u0 t0 v0 = some q) (h2 : wH2 D κ ρ A s.heap H locs u0 t0 v0) (hl : lv_has ls 7 [(0, .ref b), (1, .ref (ρ 0)), (2, .ref (ρ 79)), (3, .ref (ρ 119)), (4, .int i0)]) : W p l e room_1 s m #[Value.ref b] below meth c H locs (120 + 2 * t) (6245 + 16 * t) (lw_Z below #[Value.ref b] s) (F0 m 842 ls []) := by
  have hx := hC.1.1
  have hb := hC.1.2.1
  unfold F_law_c18 at hF
  refine lv_aload_n hx hb dL_law_842 rfl (lv_at hl 1 rfl) ?_
  refine lv_aload_n hx hb dL_law_843 rfl (lv_at hl 0 rfl) ?_
  refine lv_iload hx hb dL_law_844 (lv_at hl 4 rfl) ?_
  refine lv_iconst hx hb dL_law_846 k_iconst_1 ?_
  refine lv_iadd hx hb dL_law_847 ?_
  refine wx_sld hx hb hX hbl hbA h2 dL_law_848 hF (fun j130 hF => ?_)
  refine lv_aload_n hx hb dL_law_849 rfl (lv_at hl 0 rfl) ?_
  refine lv_iload hx hb dL_law_850 (lv_at hl 4 rfl) ?_
  refine lv_iconst hx hb dL_law_852 k_iconst_2 ?_
  refine lv_iadd hx hb dL_law_853 ?_
  refine wx_sld hx hb hX hbl hbA h2 dL_law_854 hF (fun j131 hF => ?_)
  refine wl_p0i hC h2 hl (c_X8_rests 0 (xs j130) (xs j131) rfl) y_X8_rests v_X8_rests rfl rfl m_L_105 rfl ⟨Nat.le_of_ble_eq_true rfl, Nat.le_of_ble_eq_true rfl⟩ hcs rfl (Nat.le_of_ble_eq_true rfl) dL_law_855 hF (fun r132 H locs hF h2 => ?_)
  refine lv_aload_n hx hb dL_law_858 rfl (lv_at hl 2 rfl) ?_
  refine lv_aload_n hx hb dL_law_859 rfl (lv_at hl 0 rfl) ?_
  refine lv_iload hx hb dL_law_860 (lv_at hl 4 rfl) ?_
  refine lv_iconst hx hb dL_law_862 k_iconst_1 ?_
  refine lv_iadd hx hb dL_law_863 ?_
  refine wx_sld hx hb hX hbl hbA h2 dL_law_864 hF (fun j133 hF => ?_)
  refine lv_aload_n hx hb dL_law_865 rfl (lv_at hl 0 rfl) ?_
  refine lv_iload hx hb dL_law_866 (lv_at hl 4 rfl) ?_
  refine lv_iconst hx hb dL_law_868 k_iconst_2 ?_
  refine lv_iadd hx hb dL_law_869 ?_
  refine wx_sld hx hb hX hbl hbA h2 dL_law_870 hF (fun j134 hF => ?_)
  refine wl_e1i hC1 h2 hl (c_X9_rests 79 (xs j133) (xs j134) rfl) y_X9_rests v_X9_rests rfl rfl m_L_108 rfl ⟨Nat.le_of_ble_eq_true rfl, Nat.le_of_ble_eq_true rfl⟩ hcs rfl (Nat.le_of_ble_eq_true rfl) dL_law_871 hF (fun r135 t136 H locs hF h2 => ?_)
  refine lv_icmp_eq hx hb dL_law_874 (tgt := 1556) rfl (fun h => ?_) (fun h => ?_)
  rotate_left
  · have hF := wx_f h hF
    exact absurd (wJ_r hq hF) (by decide)
  have hF := wx_t h hF
  have hF := wJ_l hq hF
  refine W.widen (k := 120 + 2 * t + 2) (n := 6245 + 16 * t + 16) (by omega) (by omega) ?_
  exact hE u0 t136 v0 H locs ls hF h2 (lv_sub hl [0, 1, 2, 3, 4] rfl)
set_option maxRecDepth 100000 in
set_option maxHeartbeats 4000000 in
theorem law_c19 {p : Program} {l : Launch} {e : Env} {s : State} {m : MethodId} {below : List Frame} {meth : Method} {c : Code} {D : va_G} {κ : Nat → ClassId} {ρ : Nat → Nat} {A : Nat → Prop} {b L : Nat} {xs : Nat → Int32} {t : Nat} {i0 : Int32} {u0 t0 : wSt} {v0 : Int64} {H : Heap} {locs : List Loc} {ls : Array Slot} {q : (Int32 × wSt × wSt × Int64) ⊕ Int32} {B : Int32 × wSt × wSt × Int64 → Option Int32} (hC : wCx p m c cL_law 7 s #[Value.ref b] RL D κ 0) (hC1 : wCx p m c cL_law 7 s #[Value.ref b] RL D κ 1) (hr : meth.sig.returnType = ret) (hlk : meth.locks = false) (hX : va_X b L xs s s.heap) (hbl : b < s.heap.size) (hbA : ¬ A b) (hG : wGst p l e s m below meth c b D κ ρ A) (hq : wJP q B 1) (hcs : 120 + 2 * t ≤ room_1.cells ∧ 6245 + 16 * t ≤ room_1.slots) (hcs2 : 120 + 2 * t + 2 ≤ 1146 ∧ 6245 + 16 * t + 16 ≤ 14449) (hcs3 : 120 + 2 * t + 2 ≤ room_1.cells ∧ 6245 + 16 * t + 16 ≤ room_1.slots) (hE : ∀ (u1 t1 : wSt) (v1 : Int64) (H : Heap) (locs : List Loc) (ls : Array Slot), B (i0 + (6 : Int32), u1, t1, v1) = some 1 → wH2 D κ ρ A s.heap H locs u1 t1 v1 → lv_has ls 7 [(0, .ref b), (1, .ref (ρ 0)), (2, .ref (ρ 79)), (3, .ref (ρ 119)), (4, .int i0)] → W p l e room_1 s m #[Value.ref b] below meth c H locs (120 + 2 * t + 2) (6245 + 16 * t + 16) (lw_Z below #[Value.ref b] s) (F0 m 1556 ls [])) (hF : F_law_c19 L xs i0 u0 t0 v0 = some q) (h2 : wH2 D κ ρ A s.heap H locs u0 t0 v0) (hl : lv_has ls 7 [(0, .ref b), (1, .ref (ρ 0)), (2, .ref (ρ 79)), (3, .ref (ρ 119)), (4, .int i0)]) : W p l e room_1 s m #[Value.ref b] below meth c H locs (120 + 2 * t) (6245 + 16 * t) (lw_Z below #[Value.ref b] s) (F0 m 879 ls []) := by
  have hx := hC.1.1
  have hb := hC.1.2.1
  unfold F_law_c19 at hF
  refine lv_aload_n hx hb dL_law_879 rfl (lv_at hl 1 rfl) ?_
  refine lv_aload_n hx hb dL_law_880 rfl (lv_at hl 0 rfl) ?_
  refine lv_iload hx hb dL_law_881 (lv_at hl 4 rfl) ?_
  refine lv_iconst hx hb dL_law_883 k_iconst_1 ?_
  refine lv_iadd hx hb dL_law_884 ?_
  refine wx_sld hx hb hX hbl hbA h2 dL_law_885 hF (fun j137 hF => ?_)
  refine lv_aload_n hx hb dL_law_886 rfl (lv_at hl 0 rfl) ?_
  refine lv_iload hx hb dL_law_887 (lv_at hl 4 rfl) ?_
  refine lv_iconst hx hb dL_law_889 k_iconst_2 ?_
  refine lv_iadd hx hb dL_law_890 ?_
  refine wx_sld hx hb hX hbl hbA h2 dL_law_891 hF (fun j138 hF => ?_)
  refine lv_aload_n hx hb dL_law_892 rfl (lv_at hl 0 rfl) ?_
  refine lv_iload hx hb dL_law_893 (lv_at hl 4 rfl) ?_
  refine lv_iconst hx hb dL_law_895 k_iconst_3 ?_
  refine lv_iadd hx hb dL_law_896 ?_
  refine wx_sld hx hb hX hbl hbA h2 dL_law_897 hF (fun j139 hF => ?_)
  refine wl_p0i hC h2 hl (c_X8_rest 0 (xs j137) (xs j138) (xs j139) rfl) y_X8_rest v_X8_rest rfl rfl m_L_109 rfl ⟨Nat.le_of_ble_eq_true rfl, Nat.le_of_ble_eq_true rfl⟩ hcs rfl (Nat.le_of_ble_eq_true rfl) dL_law_898 hF (fun r140 H locs hF h2 => ?_)
  refine lv_aload_n hx hb dL_law_901 rfl (lv_at hl 2 rfl) ?_
  refine lv_aload_n hx hb dL_law_902 rfl (lv_at hl 0 rfl) ?_
  refine lv_iload hx hb dL_law_903 (lv_at hl 4 rfl) ?_
  refine lv_iconst hx hb dL_law_905 k_iconst_1 ?_
  refine lv_iadd hx hb dL_law_906 ?_
  refine wx_sld hx hb hX hbl hbA h2 dL_law_907 hF (fun j141 hF => ?_)
  refine lv_aload_n hx hb dL_law_908 rfl (lv_at hl 0 rfl) ?_
  refine lv_iload hx hb dL_law_909 (lv_at hl 4 rfl) ?_
  refine lv_iconst hx hb dL_law_911 k_iconst_2 ?_
  refine lv_iadd hx hb dL_law_912 ?_
  refine wx_sld hx hb hX hbl hbA h2 dL_law_913 hF (fun j142 hF => ?_)
  refine lv_aload_n hx hb dL_law_914 rfl (lv_at hl 0 rfl) ?_
  refine lv_iload hx hb dL_law_915 (lv_at hl 4 rfl) ?_
  refine lv_iconst hx hb dL_law_917 k_iconst_3 ?_
  refine lv_iadd hx hb dL_law_918 ?_
  refine wx_sld hx hb hX hbl hbA h2 dL_law_919 hF (fun j143 hF => ?_)
  refine wl_e1i hC1 h2 hl (c_X9_rest 79 (xs j141) (xs j142) (xs j143) rfl) y_X9_rest v_X9_rest rfl rfl m_L_112 rfl ⟨Nat.le_of_ble_eq_true rfl, Nat.le_of_ble_eq_true rfl⟩ hcs rfl (Nat.le_of_ble_eq_true rfl) dL_law_920 hF (fun r144 t145 H locs hF h2 => ?_)
  refine lv_icmp_eq hx hb dL_law_923 (tgt := 1556) rfl (fun h => ?_) (fun h => ?_)
  rotate_left
  · have hF := wx_f h hF
    exact absurd (wJ_r hq hF) (by decide)
  have hF := wx_t h hF
  have hF := wJ_l hq hF
  refine W.widen (k := 120 + 2 * t + 2) (n := 6245 + 16 * t + 16) (by omega) (by omega) ?_
  exact hE u0 t145 v0 H locs ls hF h2 (lv_sub hl [0, 1, 2, 3, 4] rfl)
set_option maxRecDepth 100000 in
set_option maxHeartbeats 4000000 in
theorem law_c20 {p : Program} {l : Launch} {e : Env} {s : State} {m : MethodId} {below : List Frame} {meth : Method} {c : Code} {D : va_G} {κ : Nat → ClassId} {ρ : Nat → Nat} {A : Nat → Prop} {b L : Nat} {xs : Nat → Int32} {t : Nat} {i0 : Int32} {u0 t0 : wSt} {v0 : Int64} {H : Heap} {locs : List Loc} {ls : Array Slot} {q : (Int32 × wSt × wSt × Int64) ⊕ Int32} {B : Int32 × wSt × wSt × Int64 → Option Int32} (hC : wCx p m c cL_law 7 s #[Value.ref b] RL D κ 0) (hC1 : wCx p m c cL_law 7 s #[Value.ref b] RL D κ 1) (hr : meth.sig.returnType = ret) (hlk : meth.locks = false) (hX : va_X b L xs s s.heap) (hbl : b < s.heap.size) (hbA : ¬ A b) (hG : wGst p l e s m below meth c b D κ ρ A) (hq : wJP q B 1) (hcs : 120 + 2 * t ≤ room_1.cells ∧ 6245 + 16 * t ≤ room_1.slots) (hcs2 : 120 + 2 * t + 2 ≤ 1146 ∧ 6245 + 16 * t + 16 ≤ 14449) (hcs3 : 120 + 2 * t + 2 ≤ room_1.cells ∧ 6245 + 16 * t + 16 ≤ room_1.slots) (hE : ∀ (u1 t1 : wSt) (v1 : Int64) (H : Heap) (locs : List Loc) (ls : Array Slot), B (i0 + (6 : Int32), u1, t1, v1) = some 1 → wH2 D κ ρ A s.heap H locs u1 t1 v1 → lv_has ls 7 [(0, .ref b), (1, .ref (ρ 0)), (2, .ref (ρ 79)), (3, .ref (ρ 119)), (4, .int i0)] → W p l e room_1 s m #[Value.ref b] below meth c H locs (120 + 2 * t + 2) (6245 + 16 * t + 16) (lw_Z below #[Value.ref b] s) (F0 m 1556 ls [])) (hF : F_law_c20 L xs i0 u0 t0 v0 = some q) (h2 : wH2 D κ ρ A s.heap H locs u0 t0 v0) (hl : lv_has ls 7 [(0, .ref b), (1, .ref (ρ 0)), (2, .ref (ρ 79)), (3, .ref (ρ 119)), (4, .int i0)]) : W p l e room_1 s m #[Value.ref b] below meth c H locs (120 + 2 * t) (6245 + 16 * t) (lw_Z below #[Value.ref b] s) (F0 m 928 ls []) := by
  have hx := hC.1.1
  have hb := hC.1.2.1
  unfold F_law_c20 at hF
  refine lv_aload_n hx hb dL_law_928 rfl (lv_at hl 1 rfl) ?_
  refine lv_aload_n hx hb dL_law_929 rfl (lv_at hl 0 rfl) ?_
  refine lv_iload hx hb dL_law_930 (lv_at hl 4 rfl) ?_
  refine lv_iconst hx hb dL_law_932 k_iconst_1 ?_
  refine lv_iadd hx hb dL_law_933 ?_
  refine wx_sld hx hb hX hbl hbA h2 dL_law_934 hF (fun j146 hF => ?_)
  refine lv_aload_n hx hb dL_law_935 rfl (lv_at hl 0 rfl) ?_
  refine lv_iload hx hb dL_law_936 (lv_at hl 4 rfl) ?_
  refine lv_iconst hx hb dL_law_938 k_iconst_2 ?_
  refine lv_iadd hx hb dL_law_939 ?_
  refine wx_sld hx hb hX hbl hbA h2 dL_law_940 hF (fun j147 hF => ?_)
  refine wl_p0l hC h2 hl (c_X8_warm 0 (xs j146) (xs j147) rfl) y_X8_warm v_X8_warm rfl rfl m_L_113 rfl ⟨Nat.le_of_ble_eq_true rfl, Nat.le_of_ble_eq_true rfl⟩ hcs rfl (Nat.le_of_ble_eq_true rfl) dL_law_941 hF (fun r148 H locs hF h2 => ?_)
  refine lv_aload_n hx hb dL_law_944 rfl (lv_at hl 2 rfl) ?_
  refine lv_aload_n hx hb dL_law_945 rfl (lv_at hl 0 rfl) ?_
  refine lv_iload hx hb dL_law_946 (lv_at hl 4 rfl) ?_
  refine lv_iconst hx hb dL_law_948 k_iconst_1 ?_
  refine lv_iadd hx hb dL_law_949 ?_
  refine wx_sld hx hb hX hbl hbA h2 dL_law_950 hF (fun j149 hF => ?_)
  refine lv_aload_n hx hb dL_law_951 rfl (lv_at hl 0 rfl) ?_
  refine lv_iload hx hb dL_law_952 (lv_at hl 4 rfl) ?_
  refine lv_iconst hx hb dL_law_954 k_iconst_2 ?_
  refine lv_iadd hx hb dL_law_955 ?_
  refine wx_sld hx hb hX hbl hbA h2 dL_law_956 hF (fun j150 hF => ?_)
  refine wl_e1l hC1 h2 hl (c_X9_warm 79 (xs j149) (xs j150) rfl) y_X9_warm v_X9_warm rfl rfl m_L_117 rfl ⟨Nat.le_of_ble_eq_true rfl, Nat.le_of_ble_eq_true rfl⟩ hcs rfl (Nat.le_of_ble_eq_true rfl) dL_law_957 hF (fun r151 t152 H locs hF h2 => ?_)
  refine W.lcmp hx hb dL_law_960 ?_
  refine lv_if_eq hx hb dL_law_961 (tgt := 1556) rfl (fun h => ?_) (fun h => ?_)
  rotate_left
  · have hF := wx_f h hF
    exact absurd (wJ_r hq hF) (by decide)
  have hF := wx_t h hF
  have hF := wJ_l hq hF
  refine W.widen (k := 120 + 2 * t + 2) (n := 6245 + 16 * t + 16) (by omega) (by omega) ?_
  exact hE u0 t152 v0 H locs ls hF h2 (lv_sub hl [0, 1, 2, 3, 4] rfl)
set_option maxRecDepth 100000 in
set_option maxHeartbeats 4000000 in
theorem law_c21 {p : Program} {l : Launch} {e : Env} {s : State} {m : MethodId} {below : List Frame} {meth : Method} {c : Code} {D : va_G} {κ : Nat → ClassId} {ρ : Nat → Nat} {A : Nat → Prop} {b L : Nat} {xs : Nat → Int32} {t : Nat} {i0 : Int32} {u0 t0 : wSt} {v0 : Int64} {H : Heap} {locs : List Loc} {ls : Array Slot} {q : (Int32 × wSt × wSt × Int64) ⊕ Int32} {B : Int32 × wSt × wSt × Int64 → Option Int32} (hC : wCx p m c cL_law 7 s #[Value.ref b] RL D κ 0) (hC1 : wCx p m c cL_law 7 s #[Value.ref b] RL D κ 1) (hr : meth.sig.returnType = ret) (hlk : meth.locks = false) (hX : va_X b L xs s s.heap) (hbl : b < s.heap.size) (hbA : ¬ A b) (hG : wGst p l e s m below meth c b D κ ρ A) (hq : wJP q B 1) (hcs : 120 + 2 * t ≤ room_1.cells ∧ 6245 + 16 * t ≤ room_1.slots) (hcs2 : 120 + 2 * t + 2 ≤ 1146 ∧ 6245 + 16 * t + 16 ≤ 14449) (hcs3 : 120 + 2 * t + 2 ≤ room_1.cells ∧ 6245 + 16 * t + 16 ≤ room_1.slots) (hE : ∀ (u1 t1 : wSt) (v1 : Int64) (H : Heap) (locs : List Loc) (ls : Array Slot), B (i0 + (6 : Int32), u1, t1, v1) = some 1 → wH2 D κ ρ A s.heap H locs u1 t1 v1 → lv_has ls 7 [(0, .ref b), (1, .ref (ρ 0)), (2, .ref (ρ 79)), (3, .ref (ρ 119)), (4, .int i0)] → W p l e room_1 s m #[Value.ref b] below meth c H locs (120 + 2 * t + 2) (6245 + 16 * t + 16) (lw_Z below #[Value.ref b] s) (F0 m 1556 ls [])) (hF : F_law_c21 L xs i0 u0 t0 v0 = some q) (h2 : wH2 D κ ρ A s.heap H locs u0 t0 v0) (hl : lv_has ls 7 [(0, .ref b), (1, .ref (ρ 0)), (2, .ref (ρ 79)), (3, .ref (ρ 119)), (4, .int i0)]) : W p l e room_1 s m #[Value.ref b] below meth c H locs (120 + 2 * t) (6245 + 16 * t) (lw_Z below #[Value.ref b] s) (F0 m 966 ls []) := by
  have hx := hC.1.1
  have hb := hC.1.2.1
  unfold F_law_c21 at hF
  refine lv_aload_n hx hb dL_law_966 rfl (lv_at hl 1 rfl) ?_
  refine wl_e0i hC h2 hl (c_X8_bowl 0 rfl) y_X8_bowl v_X8_bowl rfl rfl m_L_118 rfl ⟨Nat.le_of_ble_eq_true rfl, Nat.le_of_ble_eq_true rfl⟩ hcs rfl (Nat.le_of_ble_eq_true rfl) dL_law_967 hF (fun r153 u154 H locs hF h2 => ?_)
  refine lv_aload_n hx hb dL_law_970 rfl (lv_at hl 2 rfl) ?_
  refine wl_e1i hC1 h2 hl (c_X9_bowl 79 rfl) y_X9_bowl v_X9_bowl rfl rfl m_L_121 rfl ⟨Nat.le_of_ble_eq_true rfl, Nat.le_of_ble_eq_true rfl⟩ hcs rfl (Nat.le_of_ble_eq_true rfl) dL_law_971 hF (fun r155 t156 H locs hF h2 => ?_)
  refine lv_icmp_eq hx hb dL_law_974 (tgt := 1556) rfl (fun h => ?_) (fun h => ?_)
  rotate_left
  · have hF := wx_f h hF
    exact absurd (wJ_r hq hF) (by decide)
  have hF := wx_t h hF
  have hF := wJ_l hq hF
  refine W.widen (k := 120 + 2 * t + 2) (n := 6245 + 16 * t + 16) (by omega) (by omega) ?_
  exact hE u154 t156 v0 H locs ls hF h2 (lv_sub hl [0, 1, 2, 3, 4] rfl)
set_option maxRecDepth 100000 in
set_option maxHeartbeats 4000000 in
theorem law_c22 {p : Program} {l : Launch} {e : Env} {s : State} {m : MethodId} {below : List Frame} {meth : Method} {c : Code} {D : va_G} {κ : Nat → ClassId} {ρ : Nat → Nat} {A : Nat → Prop} {b L : Nat} {xs : Nat → Int32} {t : Nat} {i0 : Int32} {u0 t0 : wSt} {v0 : Int64} {H : Heap} {locs : List Loc} {ls : Array Slot} {q : (Int32 × wSt × wSt × Int64) ⊕ Int32} {B : Int32 × wSt × wSt × Int64 → Option Int32} (hC : wCx p m c cL_law 7 s #[Value.ref b] RL D κ 0) (hC1 : wCx p m c cL_law 7 s #[Value.ref b] RL D κ 1) (hr : meth.sig.returnType = ret) (hlk : meth.locks = false) (hX : va_X b L xs s s.heap) (hbl : b < s.heap.size) (hbA : ¬ A b) (hG : wGst p l e s m below meth c b D κ ρ A) (hq : wJP q B 1) (hcs : 120 + 2 * t ≤ room_1.cells ∧ 6245 + 16 * t ≤ room_1.slots) (hcs2 : 120 + 2 * t + 2 ≤ 1146 ∧ 6245 + 16 * t + 16 ≤ 14449) (hcs3 : 120 + 2 * t + 2 ≤ room_1.cells ∧ 6245 + 16 * t + 16 ≤ room_1.slots) (hE : ∀ (u1 t1 : wSt) (v1 : Int64) (H : Heap) (locs : List Loc) (ls : Array Slot), B (i0 + (6 : Int32), u1, t1, v1) = some 1 → wH2 D κ ρ A s.heap H locs u1 t1 v1 → lv_has ls 7 [(0, .ref b), (1, .ref (ρ 0)), (2, .ref (ρ 79)), (3, .ref (ρ 119)), (4, .int i0)] → W p l e room_1 s m #[Value.ref b] below meth c H locs (120 + 2 * t + 2) (6245 + 16 * t + 16) (lw_Z below #[Value.ref b] s) (F0 m 1556 ls [])) (hF : F_law_c22 L xs i0 u0 t0 v0 = some q) (h2 : wH2 D κ ρ A s.heap H locs u0 t0 v0) (hl : lv_has ls 7 [(0, .ref b), (1, .ref (ρ 0)), (2, .ref (ρ 79)), (3, .ref (ρ 119)), (4, .int i0)]) : W p l e room_1 s m #[Value.ref b] below meth c H locs (120 + 2 * t) (6245 + 16 * t) (lw_Z below #[Value.ref b] s) (F0 m 979 ls []) := by
  have hx := hC.1.1
  have hb := hC.1.2.1
  unfold F_law_c22 at hF
  refine lv_aload_n hx hb dL_law_979 rfl (lv_at hl 1 rfl) ?_
  refine wl_e0i hC h2 hl (c_X8_uppermost 0 rfl) y_X8_uppermost v_X8_uppermost rfl rfl m_L_122 rfl ⟨Nat.le_of_ble_eq_true rfl, Nat.le_of_ble_eq_true rfl⟩ hcs rfl (Nat.le_of_ble_eq_true rfl) dL_law_980 hF (fun r157 u158 H locs hF h2 => ?_)
  refine lv_aload_n hx hb dL_law_983 rfl (lv_at hl 2 rfl) ?_
  refine wl_e1i hC1 h2 hl (c_X9_uppermost 79 rfl) y_X9_uppermost v_X9_uppermost rfl rfl m_L_125 rfl ⟨Nat.le_of_ble_eq_true rfl, Nat.le_of_ble_eq_true rfl⟩ hcs rfl (Nat.le_of_ble_eq_true rfl) dL_law_984 hF (fun r159 t160 H locs hF h2 => ?_)
  refine lv_icmp_eq hx hb dL_law_987 (tgt := 1556) rfl (fun h => ?_) (fun h => ?_)
  rotate_left
  · have hF := wx_f h hF
    exact absurd (wJ_r hq hF) (by decide)
  have hF := wx_t h hF
  have hF := wJ_l hq hF
  refine W.widen (k := 120 + 2 * t + 2) (n := 6245 + 16 * t + 16) (by omega) (by omega) ?_
  exact hE u158 t160 v0 H locs ls hF h2 (lv_sub hl [0, 1, 2, 3, 4] rfl)
set_option maxRecDepth 100000 in
set_option maxHeartbeats 4000000 in
theorem law_c23 {p : Program} {l : Launch} {e : Env} {s : State} {m : MethodId} {below : List Frame} {meth : Method} {c : Code} {D : va_G} {κ : Nat → ClassId} {ρ : Nat → Nat} {A : Nat → Prop} {b L : Nat} {xs : Nat → Int32} {t : Nat} {i0 : Int32} {u0 t0 : wSt} {v0 : Int64} {H : Heap} {locs : List Loc} {ls : Array Slot} {q : (Int32 × wSt × wSt × Int64) ⊕ Int32} {B : Int32 × wSt × wSt × Int64 → Option Int32} (hC : wCx p m c cL_law 7 s #[Value.ref b] RL D κ 0) (hC1 : wCx p m c cL_law 7 s #[Value.ref b] RL D κ 1) (hr : meth.sig.returnType = ret) (hlk : meth.locks = false) (hX : va_X b L xs s s.heap) (hbl : b < s.heap.size) (hbA : ¬ A b) (hG : wGst p l e s m below meth c b D κ ρ A) (hq : wJP q B 1) (hcs : 120 + 2 * t ≤ room_1.cells ∧ 6245 + 16 * t ≤ room_1.slots) (hcs2 : 120 + 2 * t + 2 ≤ 1146 ∧ 6245 + 16 * t + 16 ≤ 14449) (hcs3 : 120 + 2 * t + 2 ≤ room_1.cells ∧ 6245 + 16 * t + 16 ≤ room_1.slots) (hE : ∀ (u1 t1 : wSt) (v1 : Int64) (H : Heap) (locs : List Loc) (ls : Array Slot), B (i0 + (6 : Int32), u1, t1, v1) = some 1 → wH2 D κ ρ A s.heap H locs u1 t1 v1 → lv_has ls 7 [(0, .ref b), (1, .ref (ρ 0)), (2, .ref (ρ 79)), (3, .ref (ρ 119)), (4, .int i0)] → W p l e room_1 s m #[Value.ref b] below meth c H locs (120 + 2 * t + 2) (6245 + 16 * t + 16) (lw_Z below #[Value.ref b] s) (F0 m 1556 ls [])) (hF : F_law_c23 L xs i0 u0 t0 v0 = some q) (h2 : wH2 D κ ρ A s.heap H locs u0 t0 v0) (hl : lv_has ls 7 [(0, .ref b), (1, .ref (ρ 0)), (2, .ref (ρ 79)), (3, .ref (ρ 119)), (4, .int i0)]) : W p l e room_1 s m #[Value.ref b] below meth c H locs (120 + 2 * t) (6245 + 16 * t) (lw_Z below #[Value.ref b] s) (F0 m 992 ls []) := by
  have hx := hC.1.1
  have hb := hC.1.2.1
  unfold F_law_c23 at hF
  refine lv_aload_n hx hb dL_law_992 rfl (lv_at hl 1 rfl) ?_
  refine wl_p0i hC h2 hl (c_X8_hungriest 0 rfl) y_X8_hungriest v_X8_hungriest rfl rfl m_L_126 rfl ⟨Nat.le_of_ble_eq_true rfl, Nat.le_of_ble_eq_true rfl⟩ hcs rfl (Nat.le_of_ble_eq_true rfl) dL_law_993 hF (fun r161 H locs hF h2 => ?_)
  refine lv_aload_n hx hb dL_law_996 rfl (lv_at hl 2 rfl) ?_
  refine wl_e1i hC1 h2 hl (c_X9_hungriest 79 rfl) y_X9_hungriest v_X9_hungriest rfl rfl m_L_129 rfl ⟨Nat.le_of_ble_eq_true rfl, Nat.le_of_ble_eq_true rfl⟩ hcs rfl (Nat.le_of_ble_eq_true rfl) dL_law_997 hF (fun r162 t163 H locs hF h2 => ?_)
  refine lv_icmp_eq hx hb dL_law_1000 (tgt := 1556) rfl (fun h => ?_) (fun h => ?_)
  rotate_left
  · have hF := wx_f h hF
    exact absurd (wJ_r hq hF) (by decide)
  have hF := wx_t h hF
  have hF := wJ_l hq hF
  refine W.widen (k := 120 + 2 * t + 2) (n := 6245 + 16 * t + 16) (by omega) (by omega) ?_
  exact hE u0 t163 v0 H locs ls hF h2 (lv_sub hl [0, 1, 2, 3, 4] rfl)
set_option maxRecDepth 100000 in
set_option maxHeartbeats 4000000 in
theorem law_c24 {p : Program} {l : Launch} {e : Env} {s : State} {m : MethodId} {below : List Frame} {meth : Method} {c : Code} {D : va_G} {κ : Nat → ClassId} {ρ : Nat → Nat} {A : Nat → Prop} {b L : Nat} {xs : Nat → Int32} {t : Nat} {i0 : Int32} {u0 t0 : wSt} {v0 : Int64} {H : Heap} {locs : List Loc} {ls : Array Slot} {q : (Int32 × wSt × wSt × Int64) ⊕ Int32} {B : Int32 × wSt × wSt × Int64 → Option Int32} (hC : wCx p m c cL_law 7 s #[Value.ref b] RL D κ 0) (hC1 : wCx p m c cL_law 7 s #[Value.ref b] RL D κ 1) (hr : meth.sig.returnType = ret) (hlk : meth.locks = false) (hX : va_X b L xs s s.heap) (hbl : b < s.heap.size) (hbA : ¬ A b) (hG : wGst p l e s m below meth c b D κ ρ A) (hq : wJP q B 1) (hcs : 120 + 2 * t ≤ room_1.cells ∧ 6245 + 16 * t ≤ room_1.slots) (hcs2 : 120 + 2 * t + 2 ≤ 1146 ∧ 6245 + 16 * t + 16 ≤ 14449) (hcs3 : 120 + 2 * t + 2 ≤ room_1.cells ∧ 6245 + 16 * t + 16 ≤ room_1.slots) (hE : ∀ (u1 t1 : wSt) (v1 : Int64) (H : Heap) (locs : List Loc) (ls : Array Slot), B (i0 + (6 : Int32), u1, t1, v1) = some 1 → wH2 D κ ρ A s.heap H locs u1 t1 v1 → lv_has ls 7 [(0, .ref b), (1, .ref (ρ 0)), (2, .ref (ρ 79)), (3, .ref (ρ 119)), (4, .int i0)] → W p l e room_1 s m #[Value.ref b] below meth c H locs (120 + 2 * t + 2) (6245 + 16 * t + 16) (lw_Z below #[Value.ref b] s) (F0 m 1556 ls [])) (hF : F_law_c24 L xs i0 u0 t0 v0 = some q) (h2 : wH2 D κ ρ A s.heap H locs u0 t0 v0) (hl : lv_has ls 7 [(0, .ref b), (1, .ref (ρ 0)), (2, .ref (ρ 79)), (3, .ref (ρ 119)), (4, .int i0)]) : W p l e room_1 s m #[Value.ref b] below meth c H locs (120 + 2 * t) (6245 + 16 * t) (lw_Z below #[Value.ref b] s) (F0 m 1005 ls []) := by
  have hx := hC.1.1
  have hb := hC.1.2.1
  unfold F_law_c24 at hF
  refine lv_aload_n hx hb dL_law_1005 rfl (lv_at hl 1 rfl) ?_
  refine wl_p0i hC h2 hl (c_X8_marked 0 rfl) y_X8_marked v_X8_marked rfl rfl m_L_130 rfl ⟨Nat.le_of_ble_eq_true rfl, Nat.le_of_ble_eq_true rfl⟩ hcs rfl (Nat.le_of_ble_eq_true rfl) dL_law_1006 hF (fun r164 H locs hF h2 => ?_)
  refine lv_aload_n hx hb dL_law_1009 rfl (lv_at hl 2 rfl) ?_
  refine wl_e1i hC1 h2 hl (c_X9_marked 79 rfl) y_X9_marked v_X9_marked rfl rfl m_L_133 rfl ⟨Nat.le_of_ble_eq_true rfl, Nat.le_of_ble_eq_true rfl⟩ hcs rfl (Nat.le_of_ble_eq_true rfl) dL_law_1010 hF (fun r165 t166 H locs hF h2 => ?_)
  refine lv_icmp_eq hx hb dL_law_1013 (tgt := 1556) rfl (fun h => ?_) (fun h => ?_)
  rotate_left
  · have hF := wx_f h hF
    exact absurd (wJ_r hq hF) (by decide)
  have hF := wx_t h hF
  have hF := wJ_l hq hF
  refine W.widen (k := 120 + 2 * t + 2) (n := 6245 + 16 * t + 16) (by omega) (by omega) ?_
  exact hE u0 t166 v0 H locs ls hF h2 (lv_sub hl [0, 1, 2, 3, 4] rfl)
set_option maxRecDepth 100000 in
set_option maxHeartbeats 4000000 in
theorem law_c25 {p : Program} {l : Launch} {e : Env} {s : State} {m : MethodId} {below : List Frame} {meth : Method} {c : Code} {D : va_G} {κ : Nat → ClassId} {ρ : Nat → Nat} {A : Nat → Prop} {b L : Nat} {xs : Nat → Int32} {t : Nat} {i0 : Int32} {u0 t0 : wSt} {v0 : Int64} {H : Heap} {locs : List Loc} {ls : Array Slot} {q : (Int32 × wSt × wSt × Int64) ⊕ Int32} {B : Int32 × wSt × wSt × Int64 → Option Int32} (hC : wCx p m c cL_law 7 s #[Value.ref b] RL D κ 0) (hC1 : wCx p m c cL_law 7 s #[Value.ref b] RL D κ 1) (hr : meth.sig.returnType = ret) (hlk : meth.locks = false) (hX : va_X b L xs s s.heap) (hbl : b < s.heap.size) (hbA : ¬ A b) (hG : wGst p l e s m below meth c b D κ ρ A) (hq : wJP q B 1) (hcs : 120 + 2 * t ≤ room_1.cells ∧ 6245 + 16 * t ≤ room_1.slots) (hcs2 : 120 + 2 * t + 2 ≤ 1146 ∧ 6245 + 16 * t + 16 ≤ 14449) (hcs3 : 120 + 2 * t + 2 ≤ room_1.cells ∧ 6245 + 16 * t + 16 ≤ room_1.slots) (hE : ∀ (u1 t1 : wSt) (v1 : Int64) (H : Heap) (locs : List Loc) (ls : Array Slot), B (i0 + (6 : Int32), u1, t1, v1) = some 1 → wH2 D κ ρ A s.heap H locs u1 t1 v1 → lv_has ls 7 [(0, .ref b), (1, .ref (ρ 0)), (2, .ref (ρ 79)), (3, .ref (ρ 119)), (4, .int i0)] → W p l e room_1 s m #[Value.ref b] below meth c H locs (120 + 2 * t + 2) (6245 + 16 * t + 16) (lw_Z below #[Value.ref b] s) (F0 m 1556 ls [])) (hF : F_law_c25 L xs i0 u0 t0 v0 = some q) (h2 : wH2 D κ ρ A s.heap H locs u0 t0 v0) (hl : lv_has ls 7 [(0, .ref b), (1, .ref (ρ 0)), (2, .ref (ρ 79)), (3, .ref (ρ 119)), (4, .int i0)]) : W p l e room_1 s m #[Value.ref b] below meth c H locs (120 + 2 * t) (6245 + 16 * t) (lw_Z below #[Value.ref b] s) (F0 m 1018 ls []) := by
  have hx := hC.1.1
  have hb := hC.1.2.1
  unfold F_law_c25 at hF
  refine lv_aload_n hx hb dL_law_1018 rfl (lv_at hl 1 rfl) ?_
  refine lv_aload_n hx hb dL_law_1019 rfl (lv_at hl 0 rfl) ?_
  refine lv_iload hx hb dL_law_1020 (lv_at hl 4 rfl) ?_
  refine lv_iconst hx hb dL_law_1022 k_iconst_1 ?_
  refine lv_iadd hx hb dL_law_1023 ?_
  refine wx_sld hx hb hX hbl hbA h2 dL_law_1024 hF (fun j167 hF => ?_)
  refine lv_aload_n hx hb dL_law_1025 rfl (lv_at hl 0 rfl) ?_
  refine lv_iload hx hb dL_law_1026 (lv_at hl 4 rfl) ?_
  refine lv_iconst hx hb dL_law_1028 k_iconst_2 ?_
  refine lv_iadd hx hb dL_law_1029 ?_
  refine wx_sld hx hb hX hbl hbA h2 dL_law_1030 hF (fun j168 hF => ?_)
  refine wl_e0i hC h2 hl (c_X8_apart 0 (xs j167) (xs j168) rfl) y_X8_apart v_X8_apart rfl rfl m_L_134 rfl ⟨Nat.le_of_ble_eq_true rfl, Nat.le_of_ble_eq_true rfl⟩ hcs rfl (Nat.le_of_ble_eq_true rfl) dL_law_1031 hF (fun r169 u170 H locs hF h2 => ?_)
  refine lv_aload_n hx hb dL_law_1034 rfl (lv_at hl 2 rfl) ?_
  refine lv_aload_n hx hb dL_law_1035 rfl (lv_at hl 0 rfl) ?_
  refine lv_iload hx hb dL_law_1036 (lv_at hl 4 rfl) ?_
  refine lv_iconst hx hb dL_law_1038 k_iconst_1 ?_
  refine lv_iadd hx hb dL_law_1039 ?_
  refine wx_sld hx hb hX hbl hbA h2 dL_law_1040 hF (fun j171 hF => ?_)
  refine lv_aload_n hx hb dL_law_1041 rfl (lv_at hl 0 rfl) ?_
  refine lv_iload hx hb dL_law_1042 (lv_at hl 4 rfl) ?_
  refine lv_iconst hx hb dL_law_1044 k_iconst_2 ?_
  refine lv_iadd hx hb dL_law_1045 ?_
  refine wx_sld hx hb hX hbl hbA h2 dL_law_1046 hF (fun j172 hF => ?_)
  refine wl_e1i hC1 h2 hl (c_X9_apart 79 (xs j171) (xs j172) rfl) y_X9_apart v_X9_apart rfl rfl m_L_137 rfl ⟨Nat.le_of_ble_eq_true rfl, Nat.le_of_ble_eq_true rfl⟩ hcs rfl (Nat.le_of_ble_eq_true rfl) dL_law_1047 hF (fun r173 t174 H locs hF h2 => ?_)
  refine lv_icmp_eq hx hb dL_law_1050 (tgt := 1556) rfl (fun h => ?_) (fun h => ?_)
  rotate_left
  · have hF := wx_f h hF
    exact absurd (wJ_r hq hF) (by decide)
  have hF := wx_t h hF
  have hF := wJ_l hq hF
  refine W.widen (k := 120 + 2 * t + 2) (n := 6245 + 16 * t + 16) (by omega) (by omega) ?_
  exact hE u170 t174 v0 H locs ls hF h2 (lv_sub hl [0, 1, 2, 3, 4] rfl)
set_option maxRecDepth 100000 in
set_option maxHeartbeats 4000000 in
theorem law_c26 {p : Program} {l : Launch} {e : Env} {s : State} {m : MethodId} {below : List Frame} {meth : Method} {c : Code} {D : va_G} {κ : Nat → ClassId} {ρ : Nat → Nat} {A : Nat → Prop} {b L : Nat} {xs : Nat → Int32} {t : Nat} {i0 : Int32} {u0 t0 : wSt} {v0 : Int64} {H : Heap} {locs : List Loc} {ls : Array Slot} {q : (Int32 × wSt × wSt × Int64) ⊕ Int32} {B : Int32 × wSt × wSt × Int64 → Option Int32} (hC : wCx p m c cL_law 7 s #[Value.ref b] RL D κ 0) (hC1 : wCx p m c cL_law 7 s #[Value.ref b] RL D κ 1) (hr : meth.sig.returnType = ret) (hlk : meth.locks = false) (hX : va_X b L xs s s.heap) (hbl : b < s.heap.size) (hbA : ¬ A b) (hG : wGst p l e s m below meth c b D κ ρ A) (hq : wJP q B 1) (hcs : 120 + 2 * t ≤ room_1.cells ∧ 6245 + 16 * t ≤ room_1.slots) (hcs2 : 120 + 2 * t + 2 ≤ 1146 ∧ 6245 + 16 * t + 16 ≤ 14449) (hcs3 : 120 + 2 * t + 2 ≤ room_1.cells ∧ 6245 + 16 * t + 16 ≤ room_1.slots) (hE : ∀ (u1 t1 : wSt) (v1 : Int64) (H : Heap) (locs : List Loc) (ls : Array Slot), B (i0 + (6 : Int32), u1, t1, v1) = some 1 → wH2 D κ ρ A s.heap H locs u1 t1 v1 → lv_has ls 7 [(0, .ref b), (1, .ref (ρ 0)), (2, .ref (ρ 79)), (3, .ref (ρ 119)), (4, .int i0)] → W p l e room_1 s m #[Value.ref b] below meth c H locs (120 + 2 * t + 2) (6245 + 16 * t + 16) (lw_Z below #[Value.ref b] s) (F0 m 1556 ls [])) (hF : F_law_c26 L xs i0 u0 t0 v0 = some q) (h2 : wH2 D κ ρ A s.heap H locs u0 t0 v0) (hl : lv_has ls 7 [(0, .ref b), (1, .ref (ρ 0)), (2, .ref (ρ 79)), (3, .ref (ρ 119)), (4, .int i0)]) : W p l e room_1 s m #[Value.ref b] below meth c H locs (120 + 2 * t) (6245 + 16 * t) (lw_Z below #[Value.ref b] s) (F0 m 1055 ls []) := by
  have hx := hC.1.1
  have hb := hC.1.2.1
  unfold F_law_c26 at hF
  refine lv_aload_n hx hb dL_law_1055 rfl (lv_at hl 1 rfl) ?_
  refine lv_aload_n hx hb dL_law_1056 rfl (lv_at hl 0 rfl) ?_
  refine lv_iload hx hb dL_law_1057 (lv_at hl 4 rfl) ?_
  refine lv_iconst hx hb dL_law_1059 k_iconst_1 ?_
  refine lv_iadd hx hb dL_law_1060 ?_
  refine wx_sld hx hb hX hbl hbA h2 dL_law_1061 hF (fun j175 hF => ?_)
  refine wl_e0i hC h2 hl (c_X8_eatenIn 0 (xs j175) rfl) y_X8_eatenIn v_X8_eatenIn rfl rfl m_L_138 rfl ⟨Nat.le_of_ble_eq_true rfl, Nat.le_of_ble_eq_true rfl⟩ hcs rfl (Nat.le_of_ble_eq_true rfl) dL_law_1062 hF (fun r176 u177 H locs hF h2 => ?_)
  refine lv_aload_n hx hb dL_law_1065 rfl (lv_at hl 2 rfl) ?_
  refine lv_aload_n hx hb dL_law_1066 rfl (lv_at hl 0 rfl) ?_
  refine lv_iload hx hb dL_law_1067 (lv_at hl 4 rfl) ?_
  refine lv_iconst hx hb dL_law_1069 k_iconst_1 ?_
  refine lv_iadd hx hb dL_law_1070 ?_
  refine wx_sld hx hb hX hbl hbA h2 dL_law_1071 hF (fun j178 hF => ?_)
  refine wl_e1i hC1 h2 hl (c_X9_eatenIn 79 (xs j178) rfl) y_X9_eatenIn v_X9_eatenIn rfl rfl m_L_141 rfl ⟨Nat.le_of_ble_eq_true rfl, Nat.le_of_ble_eq_true rfl⟩ hcs rfl (Nat.le_of_ble_eq_true rfl) dL_law_1072 hF (fun r179 t180 H locs hF h2 => ?_)
  refine lv_icmp_eq hx hb dL_law_1075 (tgt := 1556) rfl (fun h => ?_) (fun h => ?_)
  rotate_left
  · have hF := wx_f h hF
    exact absurd (wJ_r hq hF) (by decide)
  have hF := wx_t h hF
  have hF := wJ_l hq hF
  refine W.widen (k := 120 + 2 * t + 2) (n := 6245 + 16 * t + 16) (by omega) (by omega) ?_
  exact hE u177 t180 v0 H locs ls hF h2 (lv_sub hl [0, 1, 2, 3, 4] rfl)
set_option maxRecDepth 100000 in
set_option maxHeartbeats 4000000 in
theorem law_c27 {p : Program} {l : Launch} {e : Env} {s : State} {m : MethodId} {below : List Frame} {meth : Method} {c : Code} {D : va_G} {κ : Nat → ClassId} {ρ : Nat → Nat} {A : Nat → Prop} {b L : Nat} {xs : Nat → Int32} {t : Nat} {i0 : Int32} {u0 t0 : wSt} {v0 : Int64} {H : Heap} {locs : List Loc} {ls : Array Slot} {q : (Int32 × wSt × wSt × Int64) ⊕ Int32} {B : Int32 × wSt × wSt × Int64 → Option Int32} (hC : wCx p m c cL_law 7 s #[Value.ref b] RL D κ 0) (hC1 : wCx p m c cL_law 7 s #[Value.ref b] RL D κ 1) (hr : meth.sig.returnType = ret) (hlk : meth.locks = false) (hX : va_X b L xs s s.heap) (hbl : b < s.heap.size) (hbA : ¬ A b) (hG : wGst p l e s m below meth c b D κ ρ A) (hq : wJP q B 1) (hcs : 120 + 2 * t ≤ room_1.cells ∧ 6245 + 16 * t ≤ room_1.slots) (hcs2 : 120 + 2 * t + 2 ≤ 1146 ∧ 6245 + 16 * t + 16 ≤ 14449) (hcs3 : 120 + 2 * t + 2 ≤ room_1.cells ∧ 6245 + 16 * t + 16 ≤ room_1.slots) (hE : ∀ (u1 t1 : wSt) (v1 : Int64) (H : Heap) (locs : List Loc) (ls : Array Slot), B (i0 + (6 : Int32), u1, t1, v1) = some 1 → wH2 D κ ρ A s.heap H locs u1 t1 v1 → lv_has ls 7 [(0, .ref b), (1, .ref (ρ 0)), (2, .ref (ρ 79)), (3, .ref (ρ 119)), (4, .int i0)] → W p l e room_1 s m #[Value.ref b] below meth c H locs (120 + 2 * t + 2) (6245 + 16 * t + 16) (lw_Z below #[Value.ref b] s) (F0 m 1556 ls [])) (hF : F_law_c27 L xs i0 u0 t0 v0 = some q) (h2 : wH2 D κ ρ A s.heap H locs u0 t0 v0) (hl : lv_has ls 7 [(0, .ref b), (1, .ref (ρ 0)), (2, .ref (ρ 79)), (3, .ref (ρ 119)), (4, .int i0)]) : W p l e room_1 s m #[Value.ref b] below meth c H locs (120 + 2 * t) (6245 + 16 * t) (lw_Z below #[Value.ref b] s) (F0 m 1080 ls []) := by
  have hx := hC.1.1
  have hb := hC.1.2.1
  unfold F_law_c27 at hF
  refine lv_aload_n hx hb dL_law_1080 rfl (lv_at hl 1 rfl) ?_
  refine lv_aload_n hx hb dL_law_1081 rfl (lv_at hl 0 rfl) ?_
  refine lv_iload hx hb dL_law_1082 (lv_at hl 4 rfl) ?_
  refine lv_iconst hx hb dL_law_1084 k_iconst_1 ?_
  refine lv_iadd hx hb dL_law_1085 ?_
  refine wx_sld hx hb hX hbl hbA h2 dL_law_1086 hF (fun j181 hF => ?_)
  refine lv_aload_n hx hb dL_law_1087 rfl (lv_at hl 0 rfl) ?_
  refine lv_iload hx hb dL_law_1088 (lv_at hl 4 rfl) ?_
  refine lv_iconst hx hb dL_law_1090 k_iconst_2 ?_
  refine lv_iadd hx hb dL_law_1091 ?_
  refine wx_sld hx hb hX hbl hbA h2 dL_law_1092 hF (fun j182 hF => ?_)
  refine wl_e0i hC h2 hl (c_X8_loaf 0 (xs j181) (xs j182) rfl) y_X8_loaf v_X8_loaf rfl rfl m_L_142 rfl ⟨Nat.le_of_ble_eq_true rfl, Nat.le_of_ble_eq_true rfl⟩ hcs rfl (Nat.le_of_ble_eq_true rfl) dL_law_1093 hF (fun r183 u184 H locs hF h2 => ?_)
  refine lv_aload_n hx hb dL_law_1096 rfl (lv_at hl 2 rfl) ?_
  refine lv_aload_n hx hb dL_law_1097 rfl (lv_at hl 0 rfl) ?_
  refine lv_iload hx hb dL_law_1098 (lv_at hl 4 rfl) ?_
  refine lv_iconst hx hb dL_law_1100 k_iconst_1 ?_
  refine lv_iadd hx hb dL_law_1101 ?_
  refine wx_sld hx hb hX hbl hbA h2 dL_law_1102 hF (fun j185 hF => ?_)
  refine lv_aload_n hx hb dL_law_1103 rfl (lv_at hl 0 rfl) ?_
  refine lv_iload hx hb dL_law_1104 (lv_at hl 4 rfl) ?_
  refine lv_iconst hx hb dL_law_1106 k_iconst_2 ?_
  refine lv_iadd hx hb dL_law_1107 ?_
  refine wx_sld hx hb hX hbl hbA h2 dL_law_1108 hF (fun j186 hF => ?_)
  refine wl_e1i hC1 h2 hl (c_X9_loaf 79 (xs j185) (xs j186) rfl) y_X9_loaf v_X9_loaf rfl rfl m_L_145 rfl ⟨Nat.le_of_ble_eq_true rfl, Nat.le_of_ble_eq_true rfl⟩ hcs rfl (Nat.le_of_ble_eq_true rfl) dL_law_1109 hF (fun r187 t188 H locs hF h2 => ?_)
  refine lv_icmp_eq hx hb dL_law_1112 (tgt := 1556) rfl (fun h => ?_) (fun h => ?_)
  rotate_left
  · have hF := wx_f h hF
    exact absurd (wJ_r hq hF) (by decide)
  have hF := wx_t h hF
  have hF := wJ_l hq hF
  refine W.widen (k := 120 + 2 * t + 2) (n := 6245 + 16 * t + 16) (by omega) (by omega) ?_
  exact hE u184 t188 v0 H locs ls hF h2 (lv_sub hl [0, 1, 2, 3, 4] rfl)
set_option maxRecDepth 100000 in
set_option maxHeartbeats 4000000 in
theorem law_c28 {p : Program} {l : Launch} {e : Env} {s : State} {m : MethodId} {below : List Frame} {meth : Method} {c : Code} {D : va_G} {κ : Nat → ClassId} {ρ : Nat → Nat} {A : Nat → Prop} {b L : Nat} {xs : Nat → Int32} {t : Nat} {i0 : Int32} {u0 t0 : wSt} {v0 : Int64} {H : Heap} {locs : List Loc} {ls : Array Slot} {q : (Int32 × wSt × wSt × Int64) ⊕ Int32} {B : Int32 × wSt × wSt × Int64 → Option Int32} (hC : wCx p m c cL_law 7 s #[Value.ref b] RL D κ 0) (hC1 : wCx p m c cL_law 7 s #[Value.ref b] RL D κ 1) (hr : meth.sig.returnType = ret) (hlk : meth.locks = false) (hX : va_X b L xs s s.heap) (hbl : b < s.heap.size) (hbA : ¬ A b) (hG : wGst p l e s m below meth c b D κ ρ A) (hq : wJP q B 1) (hcs : 120 + 2 * t ≤ room_1.cells ∧ 6245 + 16 * t ≤ room_1.slots) (hcs2 : 120 + 2 * t + 2 ≤ 1146 ∧ 6245 + 16 * t + 16 ≤ 14449) (hcs3 : 120 + 2 * t + 2 ≤ room_1.cells ∧ 6245 + 16 * t + 16 ≤ room_1.slots) (hE : ∀ (u1 t1 : wSt) (v1 : Int64) (H : Heap) (locs : List Loc) (ls : Array Slot), B (i0 + (6 : Int32), u1, t1, v1) = some 1 → wH2 D κ ρ A s.heap H locs u1 t1 v1 → lv_has ls 7 [(0, .ref b), (1, .ref (ρ 0)), (2, .ref (ρ 79)), (3, .ref (ρ 119)), (4, .int i0)] → W p l e room_1 s m #[Value.ref b] below meth c H locs (120 + 2 * t + 2) (6245 + 16 * t + 16) (lw_Z below #[Value.ref b] s) (F0 m 1556 ls [])) (hF : F_law_c28 L xs i0 u0 t0 v0 = some q) (h2 : wH2 D κ ρ A s.heap H locs u0 t0 v0) (hl : lv_has ls 7 [(0, .ref b), (1, .ref (ρ 0)), (2, .ref (ρ 79)), (3, .ref (ρ 119)), (4, .int i0)]) : W p l e room_1 s m #[Value.ref b] below meth c H locs (120 + 2 * t) (6245 + 16 * t) (lw_Z below #[Value.ref b] s) (F0 m 1117 ls []) := by
  have hx := hC.1.1
  have hb := hC.1.2.1
  unfold F_law_c28 at hF
  refine lv_aload_n hx hb dL_law_1117 rfl (lv_at hl 1 rfl) ?_
  refine lv_aload_n hx hb dL_law_1118 rfl (lv_at hl 0 rfl) ?_
  refine lv_iload hx hb dL_law_1119 (lv_at hl 4 rfl) ?_
  refine lv_iconst hx hb dL_law_1121 k_iconst_1 ?_
  refine lv_iadd hx hb dL_law_1122 ?_
  refine wx_sld hx hb hX hbl hbA h2 dL_law_1123 hF (fun j189 hF => ?_)
  refine lv_aload_n hx hb dL_law_1124 rfl (lv_at hl 0 rfl) ?_
  refine lv_iload hx hb dL_law_1125 (lv_at hl 4 rfl) ?_
  refine lv_iconst hx hb dL_law_1127 k_iconst_2 ?_
  refine lv_iadd hx hb dL_law_1128 ?_
  refine wx_sld hx hb hX hbl hbA h2 dL_law_1129 hF (fun j190 hF => ?_)
  refine wl_e0i hC h2 hl (c_X8_chain 0 (xs j189) (xs j190) rfl) y_X8_chain v_X8_chain rfl rfl m_L_146 rfl ⟨Nat.le_of_ble_eq_true rfl, Nat.le_of_ble_eq_true rfl⟩ hcs rfl (Nat.le_of_ble_eq_true rfl) dL_law_1130 hF (fun r191 u192 H locs hF h2 => ?_)
  refine lv_aload_n hx hb dL_law_1133 rfl (lv_at hl 2 rfl) ?_
  refine lv_aload_n hx hb dL_law_1134 rfl (lv_at hl 0 rfl) ?_
  refine lv_iload hx hb dL_law_1135 (lv_at hl 4 rfl) ?_
  refine lv_iconst hx hb dL_law_1137 k_iconst_1 ?_
  refine lv_iadd hx hb dL_law_1138 ?_
  refine wx_sld hx hb hX hbl hbA h2 dL_law_1139 hF (fun j193 hF => ?_)
  refine lv_aload_n hx hb dL_law_1140 rfl (lv_at hl 0 rfl) ?_
  refine lv_iload hx hb dL_law_1141 (lv_at hl 4 rfl) ?_
  refine lv_iconst hx hb dL_law_1143 k_iconst_2 ?_
  refine lv_iadd hx hb dL_law_1144 ?_
  refine wx_sld hx hb hX hbl hbA h2 dL_law_1145 hF (fun j194 hF => ?_)
  refine wl_e1i hC1 h2 hl (c_X9_chain 79 (xs j193) (xs j194) rfl) y_X9_chain v_X9_chain rfl rfl m_L_149 rfl ⟨Nat.le_of_ble_eq_true rfl, Nat.le_of_ble_eq_true rfl⟩ hcs rfl (Nat.le_of_ble_eq_true rfl) dL_law_1146 hF (fun r195 t196 H locs hF h2 => ?_)
  refine lv_icmp_eq hx hb dL_law_1149 (tgt := 1556) rfl (fun h => ?_) (fun h => ?_)
  rotate_left
  · have hF := wx_f h hF
    exact absurd (wJ_r hq hF) (by decide)
  have hF := wx_t h hF
  have hF := wJ_l hq hF
  refine W.widen (k := 120 + 2 * t + 2) (n := 6245 + 16 * t + 16) (by omega) (by omega) ?_
  exact hE u192 t196 v0 H locs ls hF h2 (lv_sub hl [0, 1, 2, 3, 4] rfl)
set_option maxRecDepth 100000 in
set_option maxHeartbeats 4000000 in
theorem law_c29 {p : Program} {l : Launch} {e : Env} {s : State} {m : MethodId} {below : List Frame} {meth : Method} {c : Code} {D : va_G} {κ : Nat → ClassId} {ρ : Nat → Nat} {A : Nat → Prop} {b L : Nat} {xs : Nat → Int32} {t : Nat} {i0 : Int32} {u0 t0 : wSt} {v0 : Int64} {H : Heap} {locs : List Loc} {ls : Array Slot} {q : (Int32 × wSt × wSt × Int64) ⊕ Int32} {B : Int32 × wSt × wSt × Int64 → Option Int32} (hC : wCx p m c cL_law 7 s #[Value.ref b] RL D κ 0) (hC1 : wCx p m c cL_law 7 s #[Value.ref b] RL D κ 1) (hr : meth.sig.returnType = ret) (hlk : meth.locks = false) (hX : va_X b L xs s s.heap) (hbl : b < s.heap.size) (hbA : ¬ A b) (hG : wGst p l e s m below meth c b D κ ρ A) (hq : wJP q B 1) (hcs : 120 + 2 * t ≤ room_1.cells ∧ 6245 + 16 * t ≤ room_1.slots) (hcs2 : 120 + 2 * t + 2 ≤ 1146 ∧ 6245 + 16 * t + 16 ≤ 14449) (hcs3 : 120 + 2 * t + 2 ≤ room_1.cells ∧ 6245 + 16 * t + 16 ≤ room_1.slots) (hE : ∀ (u1 t1 : wSt) (v1 : Int64) (H : Heap) (locs : List Loc) (ls : Array Slot), B (i0 + (6 : Int32), u1, t1, v1) = some 1 → wH2 D κ ρ A s.heap H locs u1 t1 v1 → lv_has ls 7 [(0, .ref b), (1, .ref (ρ 0)), (2, .ref (ρ 79)), (3, .ref (ρ 119)), (4, .int i0)] → W p l e room_1 s m #[Value.ref b] below meth c H locs (120 + 2 * t + 2) (6245 + 16 * t + 16) (lw_Z below #[Value.ref b] s) (F0 m 1556 ls [])) (hF : F_law_c29 L xs i0 u0 t0 v0 = some q) (h2 : wH2 D κ ρ A s.heap H locs u0 t0 v0) (hl : lv_has ls 7 [(0, .ref b), (1, .ref (ρ 0)), (2, .ref (ρ 79)), (3, .ref (ρ 119)), (4, .int i0)]) : W p l e room_1 s m #[Value.ref b] below meth c H locs (120 + 2 * t) (6245 + 16 * t) (lw_Z below #[Value.ref b] s) (F0 m 1154 ls []) := by
  have hx := hC.1.1
  have hb := hC.1.2.1
  unfold F_law_c29 at hF
  refine lv_aload_n hx hb dL_law_1154 rfl (lv_at hl 1 rfl) ?_
  refine lv_aload_n hx hb dL_law_1155 rfl (lv_at hl 0 rfl) ?_
  refine lv_iload hx hb dL_law_1156 (lv_at hl 4 rfl) ?_
  refine lv_iconst hx hb dL_law_1158 k_iconst_1 ?_
  refine lv_iadd hx hb dL_law_1159 ?_
  refine wx_sld hx hb hX hbl hbA h2 dL_law_1160 hF (fun j197 hF => ?_)
  refine lv_aload_n hx hb dL_law_1161 rfl (lv_at hl 0 rfl) ?_
  refine lv_iload hx hb dL_law_1162 (lv_at hl 4 rfl) ?_
  refine lv_iconst hx hb dL_law_1164 k_iconst_2 ?_
  refine lv_iadd hx hb dL_law_1165 ?_
  refine wx_sld hx hb hX hbl hbA h2 dL_law_1166 hF (fun j198 hF => ?_)
  refine wl_e0i hC h2 hl (c_X8_part 0 (xs j197) (xs j198) rfl) y_X8_part v_X8_part rfl rfl m_L_150 rfl ⟨Nat.le_of_ble_eq_true rfl, Nat.le_of_ble_eq_true rfl⟩ hcs rfl (Nat.le_of_ble_eq_true rfl) dL_law_1167 hF (fun r199 u200 H locs hF h2 => ?_)
  refine lv_aload_n hx hb dL_law_1170 rfl (lv_at hl 2 rfl) ?_
  refine lv_aload_n hx hb dL_law_1171 rfl (lv_at hl 0 rfl) ?_
  refine lv_iload hx hb dL_law_1172 (lv_at hl 4 rfl) ?_
  refine lv_iconst hx hb dL_law_1174 k_iconst_1 ?_
  refine lv_iadd hx hb dL_law_1175 ?_
  refine wx_sld hx hb hX hbl hbA h2 dL_law_1176 hF (fun j201 hF => ?_)
  refine lv_aload_n hx hb dL_law_1177 rfl (lv_at hl 0 rfl) ?_
  refine lv_iload hx hb dL_law_1178 (lv_at hl 4 rfl) ?_
  refine lv_iconst hx hb dL_law_1180 k_iconst_2 ?_
  refine lv_iadd hx hb dL_law_1181 ?_
  refine wx_sld hx hb hX hbl hbA h2 dL_law_1182 hF (fun j202 hF => ?_)
  refine wl_e1i hC1 h2 hl (c_X9_part 79 (xs j201) (xs j202) rfl) y_X9_part v_X9_part rfl rfl m_L_153 rfl ⟨Nat.le_of_ble_eq_true rfl, Nat.le_of_ble_eq_true rfl⟩ hcs rfl (Nat.le_of_ble_eq_true rfl) dL_law_1183 hF (fun r203 t204 H locs hF h2 => ?_)
  refine lv_icmp_eq hx hb dL_law_1186 (tgt := 1556) rfl (fun h => ?_) (fun h => ?_)
  rotate_left
  · have hF := wx_f h hF
    exact absurd (wJ_r hq hF) (by decide)
  have hF := wx_t h hF
  have hF := wJ_l hq hF
  refine W.widen (k := 120 + 2 * t + 2) (n := 6245 + 16 * t + 16) (by omega) (by omega) ?_
  exact hE u200 t204 v0 H locs ls hF h2 (lv_sub hl [0, 1, 2, 3, 4] rfl)
set_option maxRecDepth 100000 in
set_option maxHeartbeats 4000000 in
theorem law_c30 {p : Program} {l : Launch} {e : Env} {s : State} {m : MethodId} {below : List Frame} {meth : Method} {c : Code} {D : va_G} {κ : Nat → ClassId} {ρ : Nat → Nat} {A : Nat → Prop} {b L : Nat} {xs : Nat → Int32} {t : Nat} {i0 : Int32} {u0 t0 : wSt} {v0 : Int64} {H : Heap} {locs : List Loc} {ls : Array Slot} {q : (Int32 × wSt × wSt × Int64) ⊕ Int32} {B : Int32 × wSt × wSt × Int64 → Option Int32} (hC : wCx p m c cL_law 7 s #[Value.ref b] RL D κ 0) (hC1 : wCx p m c cL_law 7 s #[Value.ref b] RL D κ 1) (hr : meth.sig.returnType = ret) (hlk : meth.locks = false) (hX : va_X b L xs s s.heap) (hbl : b < s.heap.size) (hbA : ¬ A b) (hG : wGst p l e s m below meth c b D κ ρ A) (hq : wJP q B 1) (hcs : 120 + 2 * t ≤ room_1.cells ∧ 6245 + 16 * t ≤ room_1.slots) (hcs2 : 120 + 2 * t + 2 ≤ 1146 ∧ 6245 + 16 * t + 16 ≤ 14449) (hcs3 : 120 + 2 * t + 2 ≤ room_1.cells ∧ 6245 + 16 * t + 16 ≤ room_1.slots) (hE : ∀ (u1 t1 : wSt) (v1 : Int64) (H : Heap) (locs : List Loc) (ls : Array Slot), B (i0 + (6 : Int32), u1, t1, v1) = some 1 → wH2 D κ ρ A s.heap H locs u1 t1 v1 → lv_has ls 7 [(0, .ref b), (1, .ref (ρ 0)), (2, .ref (ρ 79)), (3, .ref (ρ 119)), (4, .int i0)] → W p l e room_1 s m #[Value.ref b] below meth c H locs (120 + 2 * t + 2) (6245 + 16 * t + 16) (lw_Z below #[Value.ref b] s) (F0 m 1556 ls [])) (hF : F_law_c30 L xs i0 u0 t0 v0 = some q) (h2 : wH2 D κ ρ A s.heap H locs u0 t0 v0) (hl : lv_has ls 7 [(0, .ref b), (1, .ref (ρ 0)), (2, .ref (ρ 79)), (3, .ref (ρ 119)), (4, .int i0)]) : W p l e room_1 s m #[Value.ref b] below meth c H locs (120 + 2 * t) (6245 + 16 * t) (lw_Z below #[Value.ref b] s) (F0 m 1191 ls []) := by
  have hx := hC.1.1
  have hb := hC.1.2.1
  unfold F_law_c30 at hF
  refine lv_aload_n hx hb dL_law_1191 rfl (lv_at hl 1 rfl) ?_
  refine wl_p0i hC h2 hl (c_X8_rudest 0 rfl) y_X8_rudest v_X8_rudest rfl rfl m_L_154 rfl ⟨Nat.le_of_ble_eq_true rfl, Nat.le_of_ble_eq_true rfl⟩ hcs rfl (Nat.le_of_ble_eq_true rfl) dL_law_1192 hF (fun r205 H locs hF h2 => ?_)
  refine lv_aload_n hx hb dL_law_1195 rfl (lv_at hl 2 rfl) ?_
  refine wl_e1i hC1 h2 hl (c_X9_rudest 79 rfl) y_X9_rudest v_X9_rudest rfl rfl m_L_157 rfl ⟨Nat.le_of_ble_eq_true rfl, Nat.le_of_ble_eq_true rfl⟩ hcs rfl (Nat.le_of_ble_eq_true rfl) dL_law_1196 hF (fun r206 t207 H locs hF h2 => ?_)
  refine lv_icmp_eq hx hb dL_law_1199 (tgt := 1556) rfl (fun h => ?_) (fun h => ?_)
  rotate_left
  · have hF := wx_f h hF
    exact absurd (wJ_r hq hF) (by decide)
  have hF := wx_t h hF
  have hF := wJ_l hq hF
  refine W.widen (k := 120 + 2 * t + 2) (n := 6245 + 16 * t + 16) (by omega) (by omega) ?_
  exact hE u0 t207 v0 H locs ls hF h2 (lv_sub hl [0, 1, 2, 3, 4] rfl)
set_option maxRecDepth 100000 in
set_option maxHeartbeats 4000000 in
theorem law_c31 {p : Program} {l : Launch} {e : Env} {s : State} {m : MethodId} {below : List Frame} {meth : Method} {c : Code} {D : va_G} {κ : Nat → ClassId} {ρ : Nat → Nat} {A : Nat → Prop} {b L : Nat} {xs : Nat → Int32} {t : Nat} {i0 : Int32} {u0 t0 : wSt} {v0 : Int64} {H : Heap} {locs : List Loc} {ls : Array Slot} {q : (Int32 × wSt × wSt × Int64) ⊕ Int32} {B : Int32 × wSt × wSt × Int64 → Option Int32} (hC : wCx p m c cL_law 7 s #[Value.ref b] RL D κ 0) (hC1 : wCx p m c cL_law 7 s #[Value.ref b] RL D κ 1) (hr : meth.sig.returnType = ret) (hlk : meth.locks = false) (hX : va_X b L xs s s.heap) (hbl : b < s.heap.size) (hbA : ¬ A b) (hG : wGst p l e s m below meth c b D κ ρ A) (hq : wJP q B 1) (hcs : 120 + 2 * t ≤ room_1.cells ∧ 6245 + 16 * t ≤ room_1.slots) (hcs2 : 120 + 2 * t + 2 ≤ 1146 ∧ 6245 + 16 * t + 16 ≤ 14449) (hcs3 : 120 + 2 * t + 2 ≤ room_1.cells ∧ 6245 + 16 * t + 16 ≤ room_1.slots) (hE : ∀ (u1 t1 : wSt) (v1 : Int64) (H : Heap) (locs : List Loc) (ls : Array Slot), B (i0 + (6 : Int32), u1, t1, v1) = some 1 → wH2 D κ ρ A s.heap H locs u1 t1 v1 → lv_has ls 7 [(0, .ref b), (1, .ref (ρ 0)), (2, .ref (ρ 79)), (3, .ref (ρ 119)), (4, .int i0)] → W p l e room_1 s m #[Value.ref b] below meth c H locs (120 + 2 * t + 2) (6245 + 16 * t + 16) (lw_Z below #[Value.ref b] s) (F0 m 1556 ls [])) (hF : F_law_c31 L xs i0 u0 t0 v0 = some q) (h2 : wH2 D κ ρ A s.heap H locs u0 t0 v0) (hl : lv_has ls 7 [(0, .ref b), (1, .ref (ρ 0)), (2, .ref (ρ 79)), (3, .ref (ρ 119)), (4, .int i0)]) : W p l e room_1 s m #[Value.ref b] below meth c H locs (120 + 2 * t) (6245 + 16 * t) (lw_Z below #[Value.ref b] s) (F0 m 1204 ls []) := by
  have hx := hC.1.1
  have hb := hC.1.2.1
  unfold F_law_c31 at hF
  refine lv_aload_n hx hb dL_law_1204 rfl (lv_at hl 1 rfl) ?_
  refine lv_aload_n hx hb dL_law_1205 rfl (lv_at hl 0 rfl) ?_
  refine lv_iload hx hb dL_law_1206 (lv_at hl 4 rfl) ?_
  refine lv_iconst hx hb dL_law_1208 k_iconst_1 ?_
  refine lv_iadd hx hb dL_law_1209 ?_
  refine wx_sld hx hb hX hbl hbA h2 dL_law_1210 hF (fun j208 hF => ?_)
  refine wl_e0i hC h2 hl (c_X8_grace 0 (xs j208) rfl) y_X8_grace v_X8_grace rfl rfl m_L_158 rfl ⟨Nat.le_of_ble_eq_true rfl, Nat.le_of_ble_eq_true rfl⟩ hcs rfl (Nat.le_of_ble_eq_true rfl) dL_law_1211 hF (fun r209 u210 H locs hF h2 => ?_)
  refine lv_aload_n hx hb dL_law_1214 rfl (lv_at hl 2 rfl) ?_
  refine lv_aload_n hx hb dL_law_1215 rfl (lv_at hl 0 rfl) ?_
  refine lv_iload hx hb dL_law_1216 (lv_at hl 4 rfl) ?_
  refine lv_iconst hx hb dL_law_1218 k_iconst_1 ?_
  refine lv_iadd hx hb dL_law_1219 ?_
  refine wx_sld hx hb hX hbl hbA h2 dL_law_1220 hF (fun j211 hF => ?_)
  refine wl_e1i hC1 h2 hl (c_X9_grace 79 (xs j211) rfl) y_X9_grace v_X9_grace rfl rfl m_L_161 rfl ⟨Nat.le_of_ble_eq_true rfl, Nat.le_of_ble_eq_true rfl⟩ hcs rfl (Nat.le_of_ble_eq_true rfl) dL_law_1221 hF (fun r212 t213 H locs hF h2 => ?_)
  refine lv_icmp_eq hx hb dL_law_1224 (tgt := 1556) rfl (fun h => ?_) (fun h => ?_)
  rotate_left
  · have hF := wx_f h hF
    exact absurd (wJ_r hq hF) (by decide)
  have hF := wx_t h hF
  have hF := wJ_l hq hF
  refine W.widen (k := 120 + 2 * t + 2) (n := 6245 + 16 * t + 16) (by omega) (by omega) ?_
  exact hE u210 t213 v0 H locs ls hF h2 (lv_sub hl [0, 1, 2, 3, 4] rfl)
set_option maxRecDepth 100000 in
set_option maxHeartbeats 4000000 in
theorem law_c32 {p : Program} {l : Launch} {e : Env} {s : State} {m : MethodId} {below : List Frame} {meth : Method} {c : Code} {D : va_G} {κ : Nat → ClassId} {ρ : Nat → Nat} {A : Nat → Prop} {b L : Nat} {xs : Nat → Int32} {t : Nat} {i0 : Int32} {u0 t0 : wSt} {v0 : Int64} {H : Heap} {locs : List Loc} {ls : Array Slot} {q : (Int32 × wSt × wSt × Int64) ⊕ Int32} {B : Int32 × wSt × wSt × Int64 → Option Int32} (hC : wCx p m c cL_law 7 s #[Value.ref b] RL D κ 0) (hC1 : wCx p m c cL_law 7 s #[Value.ref b] RL D κ 1) (hr : meth.sig.returnType = ret) (hlk : meth.locks = false) (hX : va_X b L xs s s.heap) (hbl : b < s.heap.size) (hbA : ¬ A b) (hG : wGst p l e s m below meth c b D κ ρ A) (hq : wJP q B 1) (hcs : 120 + 2 * t ≤ room_1.cells ∧ 6245 + 16 * t ≤ room_1.slots) (hcs2 : 120 + 2 * t + 2 ≤ 1146 ∧ 6245 + 16 * t + 16 ≤ 14449) (hcs3 : 120 + 2 * t + 2 ≤ room_1.cells ∧ 6245 + 16 * t + 16 ≤ room_1.slots) (hE : ∀ (u1 t1 : wSt) (v1 : Int64) (H : Heap) (locs : List Loc) (ls : Array Slot), B (i0 + (6 : Int32), u1, t1, v1) = some 1 → wH2 D κ ρ A s.heap H locs u1 t1 v1 → lv_has ls 7 [(0, .ref b), (1, .ref (ρ 0)), (2, .ref (ρ 79)), (3, .ref (ρ 119)), (4, .int i0)] → W p l e room_1 s m #[Value.ref b] below meth c H locs (120 + 2 * t + 2) (6245 + 16 * t + 16) (lw_Z below #[Value.ref b] s) (F0 m 1556 ls [])) (hF : F_law_c32 L xs i0 u0 t0 v0 = some q) (h2 : wH2 D κ ρ A s.heap H locs u0 t0 v0) (hl : lv_has ls 7 [(0, .ref b), (1, .ref (ρ 0)), (2, .ref (ρ 79)), (3, .ref (ρ 119)), (4, .int i0)]) : W p l e room_1 s m #[Value.ref b] below meth c H locs (120 + 2 * t) (6245 + 16 * t) (lw_Z below #[Value.ref b] s) (F0 m 1229 ls []) := by
  have hx := hC.1.1
  have hb := hC.1.2.1
  unfold F_law_c32 at hF
  refine lv_aload_n hx hb dL_law_1229 rfl (lv_at hl 1 rfl) ?_
  refine wl_p0i hC h2 hl (c_X8_untouched 0 rfl) y_X8_untouched v_X8_untouched rfl rfl m_L_162 rfl ⟨Nat.le_of_ble_eq_true rfl, Nat.le_of_ble_eq_true rfl⟩ hcs rfl (Nat.le_of_ble_eq_true rfl) dL_law_1230 hF (fun r214 H locs hF h2 => ?_)
  refine lv_aload_n hx hb dL_law_1233 rfl (lv_at hl 2 rfl) ?_
  refine wl_e1i hC1 h2 hl (c_X9_untouched 79 rfl) y_X9_untouched v_X9_untouched rfl rfl m_L_165 rfl ⟨Nat.le_of_ble_eq_true rfl, Nat.le_of_ble_eq_true rfl⟩ hcs rfl (Nat.le_of_ble_eq_true rfl) dL_law_1234 hF (fun r215 t216 H locs hF h2 => ?_)
  refine lv_icmp_eq hx hb dL_law_1237 (tgt := 1556) rfl (fun h => ?_) (fun h => ?_)
  rotate_left
  · have hF := wx_f h hF
    exact absurd (wJ_r hq hF) (by decide)
  have hF := wx_t h hF
  have hF := wJ_l hq hF
  refine W.widen (k := 120 + 2 * t + 2) (n := 6245 + 16 * t + 16) (by omega) (by omega) ?_
  exact hE u0 t216 v0 H locs ls hF h2 (lv_sub hl [0, 1, 2, 3, 4] rfl)
set_option maxRecDepth 100000 in
set_option maxHeartbeats 4000000 in
theorem law_c33 {p : Program} {l : Launch} {e : Env} {s : State} {m : MethodId} {below : List Frame} {meth : Method} {c : Code} {D : va_G} {κ : Nat → ClassId} {ρ : Nat → Nat} {A : Nat → Prop} {b L : Nat} {xs : Nat → Int32} {t : Nat} {i0 : Int32} {u0 t0 : wSt} {v0 : Int64} {H : Heap} {locs : List Loc} {ls : Array Slot} {q : (Int32 × wSt × wSt × Int64) ⊕ Int32} {B : Int32 × wSt × wSt × Int64 → Option Int32} (hC : wCx p m c cL_law 7 s #[Value.ref b] RL D κ 0) (hC1 : wCx p m c cL_law 7 s #[Value.ref b] RL D κ 1) (hr : meth.sig.returnType = ret) (hlk : meth.locks = false) (hX : va_X b L xs s s.heap) (hbl : b < s.heap.size) (hbA : ¬ A b) (hG : wGst p l e s m below meth c b D κ ρ A) (hq : wJP q B 1) (hcs : 120 + 2 * t ≤ room_1.cells ∧ 6245 + 16 * t ≤ room_1.slots) (hcs2 : 120 + 2 * t + 2 ≤ 1146 ∧ 6245 + 16 * t + 16 ≤ 14449) (hcs3 : 120 + 2 * t + 2 ≤ room_1.cells ∧ 6245 + 16 * t + 16 ≤ room_1.slots) (hE : ∀ (u1 t1 : wSt) (v1 : Int64) (H : Heap) (locs : List Loc) (ls : Array Slot), B (i0 + (6 : Int32), u1, t1, v1) = some 1 → wH2 D κ ρ A s.heap H locs u1 t1 v1 → lv_has ls 7 [(0, .ref b), (1, .ref (ρ 0)), (2, .ref (ρ 79)), (3, .ref (ρ 119)), (4, .int i0)] → W p l e room_1 s m #[Value.ref b] below meth c H locs (120 + 2 * t + 2) (6245 + 16 * t + 16) (lw_Z below #[Value.ref b] s) (F0 m 1556 ls [])) (hF : F_law_c33 L xs i0 u0 t0 v0 = some q) (h2 : wH2 D κ ρ A s.heap H locs u0 t0 v0) (hl : lv_has ls 7 [(0, .ref b), (1, .ref (ρ 0)), (2, .ref (ρ 79)), (3, .ref (ρ 119)), (4, .int i0)]) : W p l e room_1 s m #[Value.ref b] below meth c H locs (120 + 2 * t) (6245 + 16 * t) (lw_Z below #[Value.ref b] s) (F0 m 1242 ls []) := by
  have hx := hC.1.1
  have hb := hC.1.2.1
  unfold F_law_c33 at hF
  refine lv_aload_n hx hb dL_law_1242 rfl (lv_at hl 1 rfl) ?_
  refine lv_aload_n hx hb dL_law_1243 rfl (lv_at hl 0 rfl) ?_
  refine lv_iload hx hb dL_law_1244 (lv_at hl 4 rfl) ?_
  refine lv_iconst hx hb dL_law_1246 k_iconst_1 ?_
  refine lv_iadd hx hb dL_law_1247 ?_
  refine wx_sld hx hb hX hbl hbA h2 dL_law_1248 hF (fun j217 hF => ?_)
  refine lv_aload_n hx hb dL_law_1249 rfl (lv_at hl 0 rfl) ?_
  refine lv_iload hx hb dL_law_1250 (lv_at hl 4 rfl) ?_
  refine lv_iconst hx hb dL_law_1252 k_iconst_2 ?_
  refine lv_iadd hx hb dL_law_1253 ?_
  refine wx_sld hx hb hX hbl hbA h2 dL_law_1254 hF (fun j218 hF => ?_)
  refine lv_aload_n hx hb dL_law_1255 rfl (lv_at hl 0 rfl) ?_
  refine lv_iload hx hb dL_law_1256 (lv_at hl 4 rfl) ?_
  refine lv_iconst hx hb dL_law_1258 k_iconst_3 ?_
  refine lv_iadd hx hb dL_law_1259 ?_
  refine wx_sld hx hb hX hbl hbA h2 dL_law_1260 hF (fun j219 hF => ?_)
  refine lv_aload_n hx hb dL_law_1261 rfl (lv_at hl 0 rfl) ?_
  refine lv_iload hx hb dL_law_1262 (lv_at hl 4 rfl) ?_
  refine lv_iconst hx hb dL_law_1264 k_iconst_4 ?_
  refine lv_iadd hx hb dL_law_1265 ?_
  refine wx_sld hx hb hX hbl hbA h2 dL_law_1266 hF (fun j220 hF => ?_)
  have hM1275 : W p l e room_1 s m #[Value.ref b] below meth c H locs (120 + 2 * t) (6245 + 16 * t) (lw_Z below #[Value.ref b] s) (F0 m 1275 ls [.int (w_nz (xs j220)), .int (xs j219), .int (xs j218), .int (xs j217), .ref (ρ 0)]) → W p l e room_1 s m #[Value.ref b] below meth c H locs (120 + 2 * t) (6245 + 16 * t) (lw_Z below #[Value.ref b] s) (F0 m 1267 ls [.int (xs j220), .int (xs j219), .int (xs j218), .int (xs j217), .ref (ρ 0)]) := by
    intro hk
    refine lv_if_eq hx hb dL_law_1267 (tgt := 1274) rfl (fun h => ?_) (fun h => ?_)
    · rw [show w_nz (xs j220) = 0 from by unfold w_nz; rw [if_pos h]] at hk
      refine lv_iconst hx hb dL_law_1274 k_iconst_0 ?_
      exact hk
    rw [show w_nz (xs j220) = 1 from by unfold w_nz; rw [if_neg h]] at hk
    refine lv_iconst hx hb dL_law_1270 k_iconst_1 ?_
    refine lv_goto hx hb dL_law_1271 (tgt := 1275) rfl ?_
    exact hk
  refine hM1275 ?_
  refine wl_e0i hC h2 hl (c_X8_see 0 (xs j217) (xs j218) (xs j219) (w_nz (xs j220)) rfl) y_X8_see v_X8_see rfl rfl m_L_166 rfl ⟨Nat.le_of_ble_eq_true rfl, Nat.le_of_ble_eq_true rfl⟩ hcs rfl (Nat.le_of_ble_eq_true rfl) dL_law_1275 hF (fun r221 u222 H locs hF h2 => ?_)
  refine lv_aload_n hx hb dL_law_1278 rfl (lv_at hl 2 rfl) ?_
  refine lv_aload_n hx hb dL_law_1279 rfl (lv_at hl 0 rfl) ?_
  refine lv_iload hx hb dL_law_1280 (lv_at hl 4 rfl) ?_
  refine lv_iconst hx hb dL_law_1282 k_iconst_1 ?_
  refine lv_iadd hx hb dL_law_1283 ?_
  refine wx_sld hx hb hX hbl hbA h2 dL_law_1284 hF (fun j223 hF => ?_)
  refine lv_aload_n hx hb dL_law_1285 rfl (lv_at hl 0 rfl) ?_
  refine lv_iload hx hb dL_law_1286 (lv_at hl 4 rfl) ?_
  refine lv_iconst hx hb dL_law_1288 k_iconst_2 ?_
  refine lv_iadd hx hb dL_law_1289 ?_
  refine wx_sld hx hb hX hbl hbA h2 dL_law_1290 hF (fun j224 hF => ?_)
  refine lv_aload_n hx hb dL_law_1291 rfl (lv_at hl 0 rfl) ?_
  refine lv_iload hx hb dL_law_1292 (lv_at hl 4 rfl) ?_
  refine lv_iconst hx hb dL_law_1294 k_iconst_3 ?_
  refine lv_iadd hx hb dL_law_1295 ?_
  refine wx_sld hx hb hX hbl hbA h2 dL_law_1296 hF (fun j225 hF => ?_)
  refine lv_aload_n hx hb dL_law_1297 rfl (lv_at hl 0 rfl) ?_
  refine lv_iload hx hb dL_law_1298 (lv_at hl 4 rfl) ?_
  refine lv_iconst hx hb dL_law_1300 k_iconst_4 ?_
  refine lv_iadd hx hb dL_law_1301 ?_
  refine wx_sld hx hb hX hbl hbA h2 dL_law_1302 hF (fun j226 hF => ?_)
  have hM1311 : W p l e room_1 s m #[Value.ref b] below meth c H locs (120 + 2 * t) (6245 + 16 * t) (lw_Z below #[Value.ref b] s) (F0 m 1311 ls [.int (w_nz (xs j226)), .int (xs j225), .int (xs j224), .int (xs j223), .ref (ρ 79), .int r221]) → W p l e room_1 s m #[Value.ref b] below meth c H locs (120 + 2 * t) (6245 + 16 * t) (lw_Z below #[Value.ref b] s) (F0 m 1303 ls [.int (xs j226), .int (xs j225), .int (xs j224), .int (xs j223), .ref (ρ 79), .int r221]) := by
    intro hk
    refine lv_if_eq hx hb dL_law_1303 (tgt := 1310) rfl (fun h => ?_) (fun h => ?_)
    · rw [show w_nz (xs j226) = 0 from by unfold w_nz; rw [if_pos h]] at hk
      refine lv_iconst hx hb dL_law_1310 k_iconst_0 ?_
      exact hk
    rw [show w_nz (xs j226) = 1 from by unfold w_nz; rw [if_neg h]] at hk
    refine lv_iconst hx hb dL_law_1306 k_iconst_1 ?_
    refine lv_goto hx hb dL_law_1307 (tgt := 1311) rfl ?_
    exact hk
  refine hM1311 ?_
  refine wl_e1i hC1 h2 hl (c_X9_see 79 (xs j223) (xs j224) (xs j225) (w_nz (xs j226)) rfl) y_X9_see v_X9_see rfl rfl m_L_170 rfl ⟨Nat.le_of_ble_eq_true rfl, Nat.le_of_ble_eq_true rfl⟩ hcs rfl (Nat.le_of_ble_eq_true rfl) dL_law_1311 hF (fun r227 t228 H locs hF h2 => ?_)
  refine lv_icmp_eq hx hb dL_law_1314 (tgt := 1556) rfl (fun h => ?_) (fun h => ?_)
  rotate_left
  · have hF := wx_f h hF
    exact absurd (wJ_r hq hF) (by decide)
  have hF := wx_t h hF
  have hF := wJ_l hq hF
  refine W.widen (k := 120 + 2 * t + 2) (n := 6245 + 16 * t + 16) (by omega) (by omega) ?_
  exact hE u222 t228 v0 H locs ls hF h2 (lv_sub hl [0, 1, 2, 3, 4] rfl)
set_option maxRecDepth 100000 in
set_option maxHeartbeats 4000000 in
theorem law_c34 {p : Program} {l : Launch} {e : Env} {s : State} {m : MethodId} {below : List Frame} {meth : Method} {c : Code} {D : va_G} {κ : Nat → ClassId} {ρ : Nat → Nat} {A : Nat → Prop} {b L : Nat} {xs : Nat → Int32} {t : Nat} {i0 : Int32} {u0 t0 : wSt} {v0 : Int64} {H : Heap} {locs : List Loc} {ls : Array Slot} {q : (Int32 × wSt × wSt × Int64) ⊕ Int32} {B : Int32 × wSt × wSt × Int64 → Option Int32} (hC : wCx p m c cL_law 7 s #[Value.ref b] RL D κ 0) (hC1 : wCx p m c cL_law 7 s #[Value.ref b] RL D κ 1) (hr : meth.sig.returnType = ret) (hlk : meth.locks = false) (hX : va_X b L xs s s.heap) (hbl : b < s.heap.size) (hbA : ¬ A b) (hG : wGst p l e s m below meth c b D κ ρ A) (hq : wJP q B 1) (hcs : 120 + 2 * t ≤ room_1.cells ∧ 6245 + 16 * t ≤ room_1.slots) (hcs2 : 120 + 2 * t + 2 ≤ 1146 ∧ 6245 + 16 * t + 16 ≤ 14449) (hcs3 : 120 + 2 * t + 2 ≤ room_1.cells ∧ 6245 + 16 * t + 16 ≤ room_1.slots) (hE : ∀ (u1 t1 : wSt) (v1 : Int64) (H : Heap) (locs : List Loc) (ls : Array Slot), B (i0 + (6 : Int32), u1, t1, v1) = some 1 → wH2 D κ ρ A s.heap H locs u1 t1 v1 → lv_has ls 7 [(0, .ref b), (1, .ref (ρ 0)), (2, .ref (ρ 79)), (3, .ref (ρ 119)), (4, .int i0)] → W p l e room_1 s m #[Value.ref b] below meth c H locs (120 + 2 * t + 2) (6245 + 16 * t + 16) (lw_Z below #[Value.ref b] s) (F0 m 1556 ls [])) (hF : F_law_c34 L xs i0 u0 t0 v0 = some q) (h2 : wH2 D κ ρ A s.heap H locs u0 t0 v0) (hl : lv_has ls 7 [(0, .ref b), (1, .ref (ρ 0)), (2, .ref (ρ 79)), (3, .ref (ρ 119)), (4, .int i0)]) : W p l e room_1 s m #[Value.ref b] below meth c H locs (120 + 2 * t) (6245 + 16 * t) (lw_Z below #[Value.ref b] s) (F0 m 1319 ls []) := by
  have hx := hC.1.1
  have hb := hC.1.2.1
  unfold F_law_c34 at hF
  refine lv_aload_n hx hb dL_law_1319 rfl (lv_at hl 1 rfl) ?_
  refine lv_aload_n hx hb dL_law_1320 rfl (lv_at hl 0 rfl) ?_
  refine lv_iload hx hb dL_law_1321 (lv_at hl 4 rfl) ?_
  refine lv_iconst hx hb dL_law_1323 k_iconst_1 ?_
  refine lv_iadd hx hb dL_law_1324 ?_
  refine wx_sld hx hb hX hbl hbA h2 dL_law_1325 hF (fun j229 hF => ?_)
  refine wl_e0i hC h2 hl (c_X8_strike 0 (xs j229) rfl) y_X8_strike v_X8_strike rfl rfl m_L_171 rfl ⟨Nat.le_of_ble_eq_true rfl, Nat.le_of_ble_eq_true rfl⟩ hcs rfl (Nat.le_of_ble_eq_true rfl) dL_law_1326 hF (fun r230 u231 H locs hF h2 => ?_)
  refine lv_aload_n hx hb dL_law_1329 rfl (lv_at hl 2 rfl) ?_
  refine lv_aload_n hx hb dL_law_1330 rfl (lv_at hl 0 rfl) ?_
  refine lv_iload hx hb dL_law_1331 (lv_at hl 4 rfl) ?_
  refine lv_iconst hx hb dL_law_1333 k_iconst_1 ?_
  refine lv_iadd hx hb dL_law_1334 ?_
  refine wx_sld hx hb hX hbl hbA h2 dL_law_1335 hF (fun j232 hF => ?_)
  refine wl_e1i hC1 h2 hl (c_X9_strike 79 (xs j232) rfl) y_X9_strike v_X9_strike rfl rfl m_L_174 rfl ⟨Nat.le_of_ble_eq_true rfl, Nat.le_of_ble_eq_true rfl⟩ hcs rfl (Nat.le_of_ble_eq_true rfl) dL_law_1336 hF (fun r233 t234 H locs hF h2 => ?_)
  refine lv_icmp_eq hx hb dL_law_1339 (tgt := 1556) rfl (fun h => ?_) (fun h => ?_)
  rotate_left
  · have hF := wx_f h hF
    exact absurd (wJ_r hq hF) (by decide)
  have hF := wx_t h hF
  have hF := wJ_l hq hF
  refine W.widen (k := 120 + 2 * t + 2) (n := 6245 + 16 * t + 16) (by omega) (by omega) ?_
  exact hE u231 t234 v0 H locs ls hF h2 (lv_sub hl [0, 1, 2, 3, 4] rfl)
set_option maxRecDepth 100000 in
set_option maxHeartbeats 4000000 in
theorem law_c35 {p : Program} {l : Launch} {e : Env} {s : State} {m : MethodId} {below : List Frame} {meth : Method} {c : Code} {D : va_G} {κ : Nat → ClassId} {ρ : Nat → Nat} {A : Nat → Prop} {b L : Nat} {xs : Nat → Int32} {t : Nat} {i0 : Int32} {u0 t0 : wSt} {v0 : Int64} {H : Heap} {locs : List Loc} {ls : Array Slot} {q : (Int32 × wSt × wSt × Int64) ⊕ Int32} {B : Int32 × wSt × wSt × Int64 → Option Int32} (hC : wCx p m c cL_law 7 s #[Value.ref b] RL D κ 0) (hC1 : wCx p m c cL_law 7 s #[Value.ref b] RL D κ 1) (hr : meth.sig.returnType = ret) (hlk : meth.locks = false) (hX : va_X b L xs s s.heap) (hbl : b < s.heap.size) (hbA : ¬ A b) (hG : wGst p l e s m below meth c b D κ ρ A) (hq : wJP q B 1) (hcs : 120 + 2 * t ≤ room_1.cells ∧ 6245 + 16 * t ≤ room_1.slots) (hcs2 : 120 + 2 * t + 2 ≤ 1146 ∧ 6245 + 16 * t + 16 ≤ 14449) (hcs3 : 120 + 2 * t + 2 ≤ room_1.cells ∧ 6245 + 16 * t + 16 ≤ room_1.slots) (hE : ∀ (u1 t1 : wSt) (v1 : Int64) (H : Heap) (locs : List Loc) (ls : Array Slot), B (i0 + (6 : Int32), u1, t1, v1) = some 1 → wH2 D κ ρ A s.heap H locs u1 t1 v1 → lv_has ls 7 [(0, .ref b), (1, .ref (ρ 0)), (2, .ref (ρ 79)), (3, .ref (ρ 119)), (4, .int i0)] → W p l e room_1 s m #[Value.ref b] below meth c H locs (120 + 2 * t + 2) (6245 + 16 * t + 16) (lw_Z below #[Value.ref b] s) (F0 m 1556 ls [])) (hF : F_law_c35 L xs i0 u0 t0 v0 = some q) (h2 : wH2 D κ ρ A s.heap H locs u0 t0 v0) (hl : lv_has ls 7 [(0, .ref b), (1, .ref (ρ 0)), (2, .ref (ρ 79)), (3, .ref (ρ 119)), (4, .int i0)]) : W p l e room_1 s m #[Value.ref b] below meth c H locs (120 + 2 * t) (6245 + 16 * t) (lw_Z below #[Value.ref b] s) (F0 m 1344 ls []) := by
  have hx := hC.1.1
  have hb := hC.1.2.1
  unfold F_law_c35 at hF
  refine lv_aload_n hx hb dL_law_1344 rfl (lv_at hl 1 rfl) ?_
  refine lv_aload_n hx hb dL_law_1345 rfl (lv_at hl 0 rfl) ?_
  refine lv_iload hx hb dL_law_1346 (lv_at hl 4 rfl) ?_
  refine lv_iconst hx hb dL_law_1348 k_iconst_1 ?_
  refine lv_iadd hx hb dL_law_1349 ?_
  refine wx_sld hx hb hX hbl hbA h2 dL_law_1350 hF (fun j235 hF => ?_)
  refine wl_e0i hC h2 hl (c_X8_known 0 (xs j235) rfl) y_X8_known v_X8_known rfl rfl m_L_175 rfl ⟨Nat.le_of_ble_eq_true rfl, Nat.le_of_ble_eq_true rfl⟩ hcs rfl (Nat.le_of_ble_eq_true rfl) dL_law_1351 hF (fun r236 u237 H locs hF h2 => ?_)
  refine lv_aload_n hx hb dL_law_1354 rfl (lv_at hl 2 rfl) ?_
  refine lv_aload_n hx hb dL_law_1355 rfl (lv_at hl 0 rfl) ?_
  refine lv_iload hx hb dL_law_1356 (lv_at hl 4 rfl) ?_
  refine lv_iconst hx hb dL_law_1358 k_iconst_1 ?_
  refine lv_iadd hx hb dL_law_1359 ?_
  refine wx_sld hx hb hX hbl hbA h2 dL_law_1360 hF (fun j238 hF => ?_)
  refine wl_e1i hC1 h2 hl (c_X9_known 79 (xs j238) rfl) y_X9_known v_X9_known rfl rfl m_L_178 rfl ⟨Nat.le_of_ble_eq_true rfl, Nat.le_of_ble_eq_true rfl⟩ hcs rfl (Nat.le_of_ble_eq_true rfl) dL_law_1361 hF (fun r239 t240 H locs hF h2 => ?_)
  refine lv_icmp_eq hx hb dL_law_1364 (tgt := 1556) rfl (fun h => ?_) (fun h => ?_)
  rotate_left
  · have hF := wx_f h hF
    exact absurd (wJ_r hq hF) (by decide)
  have hF := wx_t h hF
  have hF := wJ_l hq hF
  refine W.widen (k := 120 + 2 * t + 2) (n := 6245 + 16 * t + 16) (by omega) (by omega) ?_
  exact hE u237 t240 v0 H locs ls hF h2 (lv_sub hl [0, 1, 2, 3, 4] rfl)
set_option maxRecDepth 100000 in
set_option maxHeartbeats 4000000 in
theorem law_c36 {p : Program} {l : Launch} {e : Env} {s : State} {m : MethodId} {below : List Frame} {meth : Method} {c : Code} {D : va_G} {κ : Nat → ClassId} {ρ : Nat → Nat} {A : Nat → Prop} {b L : Nat} {xs : Nat → Int32} {t : Nat} {i0 : Int32} {u0 t0 : wSt} {v0 : Int64} {H : Heap} {locs : List Loc} {ls : Array Slot} {q : (Int32 × wSt × wSt × Int64) ⊕ Int32} {B : Int32 × wSt × wSt × Int64 → Option Int32} (hC : wCx p m c cL_law 7 s #[Value.ref b] RL D κ 0) (hC1 : wCx p m c cL_law 7 s #[Value.ref b] RL D κ 1) (hr : meth.sig.returnType = ret) (hlk : meth.locks = false) (hX : va_X b L xs s s.heap) (hbl : b < s.heap.size) (hbA : ¬ A b) (hG : wGst p l e s m below meth c b D κ ρ A) (hq : wJP q B 1) (hcs : 120 + 2 * t ≤ room_1.cells ∧ 6245 + 16 * t ≤ room_1.slots) (hcs2 : 120 + 2 * t + 2 ≤ 1146 ∧ 6245 + 16 * t + 16 ≤ 14449) (hcs3 : 120 + 2 * t + 2 ≤ room_1.cells ∧ 6245 + 16 * t + 16 ≤ room_1.slots) (hE : ∀ (u1 t1 : wSt) (v1 : Int64) (H : Heap) (locs : List Loc) (ls : Array Slot), B (i0 + (6 : Int32), u1, t1, v1) = some 1 → wH2 D κ ρ A s.heap H locs u1 t1 v1 → lv_has ls 7 [(0, .ref b), (1, .ref (ρ 0)), (2, .ref (ρ 79)), (3, .ref (ρ 119)), (4, .int i0)] → W p l e room_1 s m #[Value.ref b] below meth c H locs (120 + 2 * t + 2) (6245 + 16 * t + 16) (lw_Z below #[Value.ref b] s) (F0 m 1556 ls [])) (hF : F_law_c36 L xs i0 u0 t0 v0 = some q) (h2 : wH2 D κ ρ A s.heap H locs u0 t0 v0) (hl : lv_has ls 7 [(0, .ref b), (1, .ref (ρ 0)), (2, .ref (ρ 79)), (3, .ref (ρ 119)), (4, .int i0)]) : W p l e room_1 s m #[Value.ref b] below meth c H locs (120 + 2 * t) (6245 + 16 * t) (lw_Z below #[Value.ref b] s) (F0 m 1369 ls []) := by
  have hx := hC.1.1
  have hb := hC.1.2.1
  unfold F_law_c36 at hF
  refine lv_aload_n hx hb dL_law_1369 rfl (lv_at hl 1 rfl) ?_
  refine lv_aload_n hx hb dL_law_1370 rfl (lv_at hl 0 rfl) ?_
  refine lv_iload hx hb dL_law_1371 (lv_at hl 4 rfl) ?_
  refine lv_iconst hx hb dL_law_1373 k_iconst_1 ?_
  refine lv_iadd hx hb dL_law_1374 ?_
  refine wx_sld hx hb hX hbl hbA h2 dL_law_1375 hF (fun j241 hF => ?_)
  refine wl_e0i hC h2 hl (c_X8_sweets 0 (xs j241) rfl) y_X8_sweets v_X8_sweets rfl rfl m_L_179 rfl ⟨Nat.le_of_ble_eq_true rfl, Nat.le_of_ble_eq_true rfl⟩ hcs rfl (Nat.le_of_ble_eq_true rfl) dL_law_1376 hF (fun r242 u243 H locs hF h2 => ?_)
  refine lv_aload_n hx hb dL_law_1379 rfl (lv_at hl 2 rfl) ?_
  refine lv_aload_n hx hb dL_law_1380 rfl (lv_at hl 0 rfl) ?_
  refine lv_iload hx hb dL_law_1381 (lv_at hl 4 rfl) ?_
  refine lv_iconst hx hb dL_law_1383 k_iconst_1 ?_
  refine lv_iadd hx hb dL_law_1384 ?_
  refine wx_sld hx hb hX hbl hbA h2 dL_law_1385 hF (fun j244 hF => ?_)
  refine wl_e1i hC1 h2 hl (c_X9_sweets 79 (xs j244) rfl) y_X9_sweets v_X9_sweets rfl rfl m_L_182 rfl ⟨Nat.le_of_ble_eq_true rfl, Nat.le_of_ble_eq_true rfl⟩ hcs rfl (Nat.le_of_ble_eq_true rfl) dL_law_1386 hF (fun r245 t246 H locs hF h2 => ?_)
  refine lv_icmp_eq hx hb dL_law_1389 (tgt := 1556) rfl (fun h => ?_) (fun h => ?_)
  rotate_left
  · have hF := wx_f h hF
    exact absurd (wJ_r hq hF) (by decide)
  have hF := wx_t h hF
  have hF := wJ_l hq hF
  refine W.widen (k := 120 + 2 * t + 2) (n := 6245 + 16 * t + 16) (by omega) (by omega) ?_
  exact hE u243 t246 v0 H locs ls hF h2 (lv_sub hl [0, 1, 2, 3, 4] rfl)
set_option maxRecDepth 100000 in
set_option maxHeartbeats 4000000 in
theorem law_c37 {p : Program} {l : Launch} {e : Env} {s : State} {m : MethodId} {below : List Frame} {meth : Method} {c : Code} {D : va_G} {κ : Nat → ClassId} {ρ : Nat → Nat} {A : Nat → Prop} {b L : Nat} {xs : Nat → Int32} {t : Nat} {i0 : Int32} {u0 t0 : wSt} {v0 : Int64} {H : Heap} {locs : List Loc} {ls : Array Slot} {q : (Int32 × wSt × wSt × Int64) ⊕ Int32} {B : Int32 × wSt × wSt × Int64 → Option Int32} (hC : wCx p m c cL_law 7 s #[Value.ref b] RL D κ 0) (hC1 : wCx p m c cL_law 7 s #[Value.ref b] RL D κ 1) (hr : meth.sig.returnType = ret) (hlk : meth.locks = false) (hX : va_X b L xs s s.heap) (hbl : b < s.heap.size) (hbA : ¬ A b) (hG : wGst p l e s m below meth c b D κ ρ A) (hq : wJP q B 1) (hcs : 120 + 2 * t ≤ room_1.cells ∧ 6245 + 16 * t ≤ room_1.slots) (hcs2 : 120 + 2 * t + 2 ≤ 1146 ∧ 6245 + 16 * t + 16 ≤ 14449) (hcs3 : 120 + 2 * t + 2 ≤ room_1.cells ∧ 6245 + 16 * t + 16 ≤ room_1.slots) (hE : ∀ (u1 t1 : wSt) (v1 : Int64) (H : Heap) (locs : List Loc) (ls : Array Slot), B (i0 + (6 : Int32), u1, t1, v1) = some 1 → wH2 D κ ρ A s.heap H locs u1 t1 v1 → lv_has ls 7 [(0, .ref b), (1, .ref (ρ 0)), (2, .ref (ρ 79)), (3, .ref (ρ 119)), (4, .int i0)] → W p l e room_1 s m #[Value.ref b] below meth c H locs (120 + 2 * t + 2) (6245 + 16 * t + 16) (lw_Z below #[Value.ref b] s) (F0 m 1556 ls [])) (hF : F_law_c37 L xs i0 u0 t0 v0 = some q) (h2 : wH2 D κ ρ A s.heap H locs u0 t0 v0) (hl : lv_has ls 7 [(0, .ref b), (1, .ref (ρ 0)), (2, .ref (ρ 79)), (3, .ref (ρ 119)), (4, .int i0)]) : W p l e room_1 s m #[Value.ref b] below meth c H locs (120 + 2 * t) (6245 + 16 * t) (lw_Z below #[Value.ref b] s) (F0 m 1394 ls []) := by
  have hx := hC.1.1
  have hb := hC.1.2.1
  unfold F_law_c37 at hF
  refine lv_aload_n hx hb dL_law_1394 rfl (lv_at hl 1 rfl) ?_
  refine lv_aload_n hx hb dL_law_1395 rfl (lv_at hl 0 rfl) ?_
  refine lv_iload hx hb dL_law_1396 (lv_at hl 4 rfl) ?_
  refine lv_iconst hx hb dL_law_1398 k_iconst_1 ?_
  refine lv_iadd hx hb dL_law_1399 ?_
  refine wx_sld hx hb hX hbl hbA h2 dL_law_1400 hF (fun j247 hF => ?_)
  refine lv_aload_n hx hb dL_law_1401 rfl (lv_at hl 0 rfl) ?_
  refine lv_iload hx hb dL_law_1402 (lv_at hl 4 rfl) ?_
  refine lv_iconst hx hb dL_law_1404 k_iconst_2 ?_
  refine lv_iadd hx hb dL_law_1405 ?_
  refine wx_sld hx hb hX hbl hbA h2 dL_law_1406 hF (fun j248 hF => ?_)
  refine lv_aload_n hx hb dL_law_1407 rfl (lv_at hl 0 rfl) ?_
  refine lv_iload hx hb dL_law_1408 (lv_at hl 4 rfl) ?_
  refine lv_iconst hx hb dL_law_1410 k_iconst_3 ?_
  refine lv_iadd hx hb dL_law_1411 ?_
  refine wx_sld hx hb hX hbl hbA h2 dL_law_1412 hF (fun j249 hF => ?_)
  refine wl_e0i hC h2 hl (c_X8_chance 0 (xs j247) (xs j248) (xs j249) rfl) y_X8_chance v_X8_chance rfl rfl m_L_183 rfl ⟨Nat.le_of_ble_eq_true rfl, Nat.le_of_ble_eq_true rfl⟩ hcs rfl (Nat.le_of_ble_eq_true rfl) dL_law_1413 hF (fun r250 u251 H locs hF h2 => ?_)
  refine lv_aload_n hx hb dL_law_1416 rfl (lv_at hl 2 rfl) ?_
  refine lv_aload_n hx hb dL_law_1417 rfl (lv_at hl 0 rfl) ?_
  refine lv_iload hx hb dL_law_1418 (lv_at hl 4 rfl) ?_
  refine lv_iconst hx hb dL_law_1420 k_iconst_1 ?_
  refine lv_iadd hx hb dL_law_1421 ?_
  refine wx_sld hx hb hX hbl hbA h2 dL_law_1422 hF (fun j252 hF => ?_)
  refine lv_aload_n hx hb dL_law_1423 rfl (lv_at hl 0 rfl) ?_
  refine lv_iload hx hb dL_law_1424 (lv_at hl 4 rfl) ?_
  refine lv_iconst hx hb dL_law_1426 k_iconst_2 ?_
  refine lv_iadd hx hb dL_law_1427 ?_
  refine wx_sld hx hb hX hbl hbA h2 dL_law_1428 hF (fun j253 hF => ?_)
  refine lv_aload_n hx hb dL_law_1429 rfl (lv_at hl 0 rfl) ?_
  refine lv_iload hx hb dL_law_1430 (lv_at hl 4 rfl) ?_
  refine lv_iconst hx hb dL_law_1432 k_iconst_3 ?_
  refine lv_iadd hx hb dL_law_1433 ?_
  refine wx_sld hx hb hX hbl hbA h2 dL_law_1434 hF (fun j254 hF => ?_)
  refine wl_e1i hC1 h2 hl (c_X9_chance 79 (xs j252) (xs j253) (xs j254) rfl) y_X9_chance v_X9_chance rfl rfl m_L_186 rfl ⟨Nat.le_of_ble_eq_true rfl, Nat.le_of_ble_eq_true rfl⟩ hcs rfl (Nat.le_of_ble_eq_true rfl) dL_law_1435 hF (fun r255 t256 H locs hF h2 => ?_)
  refine lv_icmp_eq hx hb dL_law_1438 (tgt := 1556) rfl (fun h => ?_) (fun h => ?_)
  rotate_left
  · have hF := wx_f h hF
    exact absurd (wJ_r hq hF) (by decide)
  have hF := wx_t h hF
  have hF := wJ_l hq hF
  refine W.widen (k := 120 + 2 * t + 2) (n := 6245 + 16 * t + 16) (by omega) (by omega) ?_
  exact hE u251 t256 v0 H locs ls hF h2 (lv_sub hl [0, 1, 2, 3, 4] rfl)
set_option maxRecDepth 100000 in
set_option maxHeartbeats 4000000 in
theorem law_c38 {p : Program} {l : Launch} {e : Env} {s : State} {m : MethodId} {below : List Frame} {meth : Method} {c : Code} {D : va_G} {κ : Nat → ClassId} {ρ : Nat → Nat} {A : Nat → Prop} {b L : Nat} {xs : Nat → Int32} {t : Nat} {i0 : Int32} {u0 t0 : wSt} {v0 : Int64} {H : Heap} {locs : List Loc} {ls : Array Slot} {q : (Int32 × wSt × wSt × Int64) ⊕ Int32} {B : Int32 × wSt × wSt × Int64 → Option Int32} (hC : wCx p m c cL_law 7 s #[Value.ref b] RL D κ 0) (hC1 : wCx p m c cL_law 7 s #[Value.ref b] RL D κ 1) (hr : meth.sig.returnType = ret) (hlk : meth.locks = false) (hX : va_X b L xs s s.heap) (hbl : b < s.heap.size) (hbA : ¬ A b) (hG : wGst p l e s m below meth c b D κ ρ A) (hq : wJP q B 1) (hcs : 120 + 2 * t ≤ room_1.cells ∧ 6245 + 16 * t ≤ room_1.slots) (hcs2 : 120 + 2 * t + 2 ≤ 1146 ∧ 6245 + 16 * t + 16 ≤ 14449) (hcs3 : 120 + 2 * t + 2 ≤ room_1.cells ∧ 6245 + 16 * t + 16 ≤ room_1.slots) (hE : ∀ (u1 t1 : wSt) (v1 : Int64) (H : Heap) (locs : List Loc) (ls : Array Slot), B (i0 + (6 : Int32), u1, t1, v1) = some 1 → wH2 D κ ρ A s.heap H locs u1 t1 v1 → lv_has ls 7 [(0, .ref b), (1, .ref (ρ 0)), (2, .ref (ρ 79)), (3, .ref (ρ 119)), (4, .int i0)] → W p l e room_1 s m #[Value.ref b] below meth c H locs (120 + 2 * t + 2) (6245 + 16 * t + 16) (lw_Z below #[Value.ref b] s) (F0 m 1556 ls [])) (hF : F_law_c38 L xs i0 u0 t0 v0 = some q) (h2 : wH2 D κ ρ A s.heap H locs u0 t0 v0) (hl : lv_has ls 7 [(0, .ref b), (1, .ref (ρ 0)), (2, .ref (ρ 79)), (3, .ref (ρ 119)), (4, .int i0)]) : W p l e room_1 s m #[Value.ref b] below meth c H locs (120 + 2 * t) (6245 + 16 * t) (lw_Z below #[Value.ref b] s) (F0 m 1443 ls []) := by
  have hx := hC.1.1
  have hb := hC.1.2.1
  unfold F_law_c38 at hF
  refine lv_aload_n hx hb dL_law_1443 rfl (lv_at hl 1 rfl) ?_
  refine lv_aload_n hx hb dL_law_1444 rfl (lv_at hl 0 rfl) ?_
  refine lv_iload hx hb dL_law_1445 (lv_at hl 4 rfl) ?_
  refine lv_iconst hx hb dL_law_1447 k_iconst_1 ?_
  refine lv_iadd hx hb dL_law_1448 ?_
  refine wx_sld hx hb hX hbl hbA h2 dL_law_1449 hF (fun j257 hF => ?_)
  refine lv_aload_n hx hb dL_law_1450 rfl (lv_at hl 0 rfl) ?_
  refine lv_iload hx hb dL_law_1451 (lv_at hl 4 rfl) ?_
  refine lv_iconst hx hb dL_law_1453 k_iconst_2 ?_
  refine lv_iadd hx hb dL_law_1454 ?_
  refine wx_sld hx hb hX hbl hbA h2 dL_law_1455 hF (fun j258 hF => ?_)
  refine lv_aload_n hx hb dL_law_1456 rfl (lv_at hl 0 rfl) ?_
  refine lv_iload hx hb dL_law_1457 (lv_at hl 4 rfl) ?_
  refine lv_iconst hx hb dL_law_1459 k_iconst_3 ?_
  refine lv_iadd hx hb dL_law_1460 ?_
  refine wx_sld hx hb hX hbl hbA h2 dL_law_1461 hF (fun j259 hF => ?_)
  refine wl_e0i hC h2 hl (c_X8_tried 0 (xs j257) (xs j258) (xs j259) rfl) y_X8_tried v_X8_tried rfl rfl m_L_187 rfl ⟨Nat.le_of_ble_eq_true rfl, Nat.le_of_ble_eq_true rfl⟩ hcs rfl (Nat.le_of_ble_eq_true rfl) dL_law_1462 hF (fun r260 u261 H locs hF h2 => ?_)
  refine lv_aload_n hx hb dL_law_1465 rfl (lv_at hl 2 rfl) ?_
  refine lv_aload_n hx hb dL_law_1466 rfl (lv_at hl 0 rfl) ?_
  refine lv_iload hx hb dL_law_1467 (lv_at hl 4 rfl) ?_
  refine lv_iconst hx hb dL_law_1469 k_iconst_1 ?_
  refine lv_iadd hx hb dL_law_1470 ?_
  refine wx_sld hx hb hX hbl hbA h2 dL_law_1471 hF (fun j262 hF => ?_)
  refine lv_aload_n hx hb dL_law_1472 rfl (lv_at hl 0 rfl) ?_
  refine lv_iload hx hb dL_law_1473 (lv_at hl 4 rfl) ?_
  refine lv_iconst hx hb dL_law_1475 k_iconst_2 ?_
  refine lv_iadd hx hb dL_law_1476 ?_
  refine wx_sld hx hb hX hbl hbA h2 dL_law_1477 hF (fun j263 hF => ?_)
  refine lv_aload_n hx hb dL_law_1478 rfl (lv_at hl 0 rfl) ?_
  refine lv_iload hx hb dL_law_1479 (lv_at hl 4 rfl) ?_
  refine lv_iconst hx hb dL_law_1481 k_iconst_3 ?_
  refine lv_iadd hx hb dL_law_1482 ?_
  refine wx_sld hx hb hX hbl hbA h2 dL_law_1483 hF (fun j264 hF => ?_)
  refine wl_e1i hC1 h2 hl (c_X9_tried 79 (xs j262) (xs j263) (xs j264) rfl) y_X9_tried v_X9_tried rfl rfl m_L_190 rfl ⟨Nat.le_of_ble_eq_true rfl, Nat.le_of_ble_eq_true rfl⟩ hcs rfl (Nat.le_of_ble_eq_true rfl) dL_law_1484 hF (fun r265 t266 H locs hF h2 => ?_)
  refine lv_icmp_eq hx hb dL_law_1487 (tgt := 1556) rfl (fun h => ?_) (fun h => ?_)
  rotate_left
  · have hF := wx_f h hF
    exact absurd (wJ_r hq hF) (by decide)
  have hF := wx_t h hF
  have hF := wJ_l hq hF
  refine W.widen (k := 120 + 2 * t + 2) (n := 6245 + 16 * t + 16) (by omega) (by omega) ?_
  exact hE u261 t266 v0 H locs ls hF h2 (lv_sub hl [0, 1, 2, 3, 4] rfl)
set_option maxRecDepth 100000 in
set_option maxHeartbeats 4000000 in
theorem law_c39 {p : Program} {l : Launch} {e : Env} {s : State} {m : MethodId} {below : List Frame} {meth : Method} {c : Code} {D : va_G} {κ : Nat → ClassId} {ρ : Nat → Nat} {A : Nat → Prop} {b L : Nat} {xs : Nat → Int32} {t : Nat} {i0 : Int32} {u0 t0 : wSt} {v0 : Int64} {H : Heap} {locs : List Loc} {ls : Array Slot} {q : (Int32 × wSt × wSt × Int64) ⊕ Int32} {B : Int32 × wSt × wSt × Int64 → Option Int32} (hC : wCx p m c cL_law 7 s #[Value.ref b] RL D κ 0) (hC1 : wCx p m c cL_law 7 s #[Value.ref b] RL D κ 1) (hr : meth.sig.returnType = ret) (hlk : meth.locks = false) (hX : va_X b L xs s s.heap) (hbl : b < s.heap.size) (hbA : ¬ A b) (hG : wGst p l e s m below meth c b D κ ρ A) (hq : wJP q B 1) (hcs : 120 + 2 * t ≤ room_1.cells ∧ 6245 + 16 * t ≤ room_1.slots) (hcs2 : 120 + 2 * t + 2 ≤ 1146 ∧ 6245 + 16 * t + 16 ≤ 14449) (hcs3 : 120 + 2 * t + 2 ≤ room_1.cells ∧ 6245 + 16 * t + 16 ≤ room_1.slots) (hE : ∀ (u1 t1 : wSt) (v1 : Int64) (H : Heap) (locs : List Loc) (ls : Array Slot), B (i0 + (6 : Int32), u1, t1, v1) = some 1 → wH2 D κ ρ A s.heap H locs u1 t1 v1 → lv_has ls 7 [(0, .ref b), (1, .ref (ρ 0)), (2, .ref (ρ 79)), (3, .ref (ρ 119)), (4, .int i0)] → W p l e room_1 s m #[Value.ref b] below meth c H locs (120 + 2 * t + 2) (6245 + 16 * t + 16) (lw_Z below #[Value.ref b] s) (F0 m 1556 ls [])) (hF : F_law_c39 L xs i0 u0 t0 v0 = some q) (h2 : wH2 D κ ρ A s.heap H locs u0 t0 v0) (hl : lv_has ls 7 [(0, .ref b), (1, .ref (ρ 0)), (2, .ref (ρ 79)), (3, .ref (ρ 119)), (4, .int i0)]) : W p l e room_1 s m #[Value.ref b] below meth c H locs (120 + 2 * t) (6245 + 16 * t) (lw_Z below #[Value.ref b] s) (F0 m 1492 ls []) := by
  have hx := hC.1.1
  have hb := hC.1.2.1
  unfold F_law_c39 at hF
  refine lv_aload_n hx hb dL_law_1492 rfl (lv_at hl 1 rfl) ?_
  refine wl_e0i hC h2 hl (c_X8_undo 0 rfl) y_X8_undo v_X8_undo rfl rfl m_L_191 rfl ⟨Nat.le_of_ble_eq_true rfl, Nat.le_of_ble_eq_true rfl⟩ hcs rfl (Nat.le_of_ble_eq_true rfl) dL_law_1493 hF (fun r267 u268 H locs hF h2 => ?_)
  refine lv_aload_n hx hb dL_law_1496 rfl (lv_at hl 2 rfl) ?_
  refine wl_e1i hC1 h2 hl (c_X9_undo 79 rfl) y_X9_undo v_X9_undo rfl rfl m_L_194 rfl ⟨Nat.le_of_ble_eq_true rfl, Nat.le_of_ble_eq_true rfl⟩ hcs rfl (Nat.le_of_ble_eq_true rfl) dL_law_1497 hF (fun r269 t270 H locs hF h2 => ?_)
  refine lv_icmp_eq hx hb dL_law_1500 (tgt := 1556) rfl (fun h => ?_) (fun h => ?_)
  rotate_left
  · have hF := wx_f h hF
    exact absurd (wJ_r hq hF) (by decide)
  have hF := wx_t h hF
  have hF := wJ_l hq hF
  refine W.widen (k := 120 + 2 * t + 2) (n := 6245 + 16 * t + 16) (by omega) (by omega) ?_
  exact hE u268 t270 v0 H locs ls hF h2 (lv_sub hl [0, 1, 2, 3, 4] rfl)
set_option maxRecDepth 100000 in
set_option maxHeartbeats 4000000 in
theorem law_c40 {p : Program} {l : Launch} {e : Env} {s : State} {m : MethodId} {below : List Frame} {meth : Method} {c : Code} {D : va_G} {κ : Nat → ClassId} {ρ : Nat → Nat} {A : Nat → Prop} {b L : Nat} {xs : Nat → Int32} {t : Nat} {i0 : Int32} {u0 t0 : wSt} {v0 : Int64} {H : Heap} {locs : List Loc} {ls : Array Slot} {q : (Int32 × wSt × wSt × Int64) ⊕ Int32} {B : Int32 × wSt × wSt × Int64 → Option Int32} (hC : wCx p m c cL_law 7 s #[Value.ref b] RL D κ 0) (hC1 : wCx p m c cL_law 7 s #[Value.ref b] RL D κ 1) (hr : meth.sig.returnType = ret) (hlk : meth.locks = false) (hX : va_X b L xs s s.heap) (hbl : b < s.heap.size) (hbA : ¬ A b) (hG : wGst p l e s m below meth c b D κ ρ A) (hq : wJP q B 1) (hcs : 120 + 2 * t ≤ room_1.cells ∧ 6245 + 16 * t ≤ room_1.slots) (hcs2 : 120 + 2 * t + 2 ≤ 1146 ∧ 6245 + 16 * t + 16 ≤ 14449) (hcs3 : 120 + 2 * t + 2 ≤ room_1.cells ∧ 6245 + 16 * t + 16 ≤ room_1.slots) (hE : ∀ (u1 t1 : wSt) (v1 : Int64) (H : Heap) (locs : List Loc) (ls : Array Slot), B (i0 + (6 : Int32), u1, t1, v1) = some 1 → wH2 D κ ρ A s.heap H locs u1 t1 v1 → lv_has ls 7 [(0, .ref b), (1, .ref (ρ 0)), (2, .ref (ρ 79)), (3, .ref (ρ 119)), (4, .int i0)] → W p l e room_1 s m #[Value.ref b] below meth c H locs (120 + 2 * t + 2) (6245 + 16 * t + 16) (lw_Z below #[Value.ref b] s) (F0 m 1556 ls [])) (hF : F_law_c40 L xs i0 u0 t0 v0 = some q) (h2 : wH2 D κ ρ A s.heap H locs u0 t0 v0) (hl : lv_has ls 7 [(0, .ref b), (1, .ref (ρ 0)), (2, .ref (ρ 79)), (3, .ref (ρ 119)), (4, .int i0)]) : W p l e room_1 s m #[Value.ref b] below meth c H locs (120 + 2 * t) (6245 + 16 * t) (lw_Z below #[Value.ref b] s) (F0 m 1505 ls []) := by
  have hx := hC.1.1
  have hb := hC.1.2.1
  unfold F_law_c40 at hF
  refine lv_aload_n hx hb dL_law_1505 rfl (lv_at hl 1 rfl) ?_
  refine wl_e0i hC h2 hl (c_X8_keep 0 rfl) y_X8_keep v_X8_keep rfl rfl m_L_195 rfl ⟨Nat.le_of_ble_eq_true rfl, Nat.le_of_ble_eq_true rfl⟩ hcs rfl (Nat.le_of_ble_eq_true rfl) dL_law_1506 hF (fun r271 u272 H locs hF h2 => ?_)
  refine lv_aload_n hx hb dL_law_1509 rfl (lv_at hl 2 rfl) ?_
  refine wl_e1i hC1 h2 hl (c_X9_keep 79 rfl) y_X9_keep v_X9_keep rfl rfl m_L_198 rfl ⟨Nat.le_of_ble_eq_true rfl, Nat.le_of_ble_eq_true rfl⟩ hcs rfl (Nat.le_of_ble_eq_true rfl) dL_law_1510 hF (fun r273 t274 H locs hF h2 => ?_)
  refine lv_icmp_eq hx hb dL_law_1513 (tgt := 1556) rfl (fun h => ?_) (fun h => ?_)
  rotate_left
  · have hF := wx_f h hF
    exact absurd (wJ_r hq hF) (by decide)
  have hF := wx_t h hF
  have hF := wJ_l hq hF
  refine W.widen (k := 120 + 2 * t + 2) (n := 6245 + 16 * t + 16) (by omega) (by omega) ?_
  exact hE u272 t274 v0 H locs ls hF h2 (lv_sub hl [0, 1, 2, 3, 4] rfl)
set_option maxRecDepth 100000 in
set_option maxHeartbeats 4000000 in
theorem law_c41 {p : Program} {l : Launch} {e : Env} {s : State} {m : MethodId} {below : List Frame} {meth : Method} {c : Code} {D : va_G} {κ : Nat → ClassId} {ρ : Nat → Nat} {A : Nat → Prop} {b L : Nat} {xs : Nat → Int32} {t : Nat} {i0 : Int32} {u0 t0 : wSt} {v0 : Int64} {H : Heap} {locs : List Loc} {ls : Array Slot} {q : (Int32 × wSt × wSt × Int64) ⊕ Int32} {B : Int32 × wSt × wSt × Int64 → Option Int32} (hC : wCx p m c cL_law 7 s #[Value.ref b] RL D κ 0) (hC1 : wCx p m c cL_law 7 s #[Value.ref b] RL D κ 1) (hr : meth.sig.returnType = ret) (hlk : meth.locks = false) (hX : va_X b L xs s s.heap) (hbl : b < s.heap.size) (hbA : ¬ A b) (hG : wGst p l e s m below meth c b D κ ρ A) (hq : wJP q B 1) (hcs : 120 + 2 * t ≤ room_1.cells ∧ 6245 + 16 * t ≤ room_1.slots) (hcs2 : 120 + 2 * t + 2 ≤ 1146 ∧ 6245 + 16 * t + 16 ≤ 14449) (hcs3 : 120 + 2 * t + 2 ≤ room_1.cells ∧ 6245 + 16 * t + 16 ≤ room_1.slots) (hE : ∀ (u1 t1 : wSt) (v1 : Int64) (H : Heap) (locs : List Loc) (ls : Array Slot), B (i0 + (6 : Int32), u1, t1, v1) = some 1 → wH2 D κ ρ A s.heap H locs u1 t1 v1 → lv_has ls 7 [(0, .ref b), (1, .ref (ρ 0)), (2, .ref (ρ 79)), (3, .ref (ρ 119)), (4, .int i0)] → W p l e room_1 s m #[Value.ref b] below meth c H locs (120 + 2 * t + 2) (6245 + 16 * t + 16) (lw_Z below #[Value.ref b] s) (F0 m 1556 ls [])) (hF : F_law_c41 L xs i0 u0 t0 v0 = some q) (h2 : wH2 D κ ρ A s.heap H locs u0 t0 v0) (hl : lv_has ls 7 [(0, .ref b), (1, .ref (ρ 0)), (2, .ref (ρ 79)), (3, .ref (ρ 119)), (4, .int i0)]) : W p l e room_1 s m #[Value.ref b] below meth c H locs (120 + 2 * t) (6245 + 16 * t) (lw_Z below #[Value.ref b] s) (F0 m 1518 ls []) := by
  have hx := hC.1.1
  have hb := hC.1.2.1
  unfold F_law_c41 at hF
  refine lv_aload_n hx hb dL_law_1518 rfl (lv_at hl 1 rfl) ?_
  refine wl_e0i hC h2 hl (c_X8_back 0 rfl) y_X8_back v_X8_back rfl rfl m_L_199 rfl ⟨Nat.le_of_ble_eq_true rfl, Nat.le_of_ble_eq_true rfl⟩ hcs rfl (Nat.le_of_ble_eq_true rfl) dL_law_1519 hF (fun r275 u276 H locs hF h2 => ?_)
  refine lv_aload_n hx hb dL_law_1522 rfl (lv_at hl 2 rfl) ?_
  refine wl_e1i hC1 h2 hl (c_X9_back 79 rfl) y_X9_back v_X9_back rfl rfl m_L_202 rfl ⟨Nat.le_of_ble_eq_true rfl, Nat.le_of_ble_eq_true rfl⟩ hcs rfl (Nat.le_of_ble_eq_true rfl) dL_law_1523 hF (fun r277 t278 H locs hF h2 => ?_)
  refine lv_icmp_eq hx hb dL_law_1526 (tgt := 1556) rfl (fun h => ?_) (fun h => ?_)
  rotate_left
  · have hF := wx_f h hF
    exact absurd (wJ_r hq hF) (by decide)
  have hF := wx_t h hF
  have hF := wJ_l hq hF
  refine W.widen (k := 120 + 2 * t + 2) (n := 6245 + 16 * t + 16) (by omega) (by omega) ?_
  exact hE u276 t278 v0 H locs ls hF h2 (lv_sub hl [0, 1, 2, 3, 4] rfl)
set_option maxRecDepth 100000 in
set_option maxHeartbeats 4000000 in
theorem law_c42 {p : Program} {l : Launch} {e : Env} {s : State} {m : MethodId} {below : List Frame} {meth : Method} {c : Code} {D : va_G} {κ : Nat → ClassId} {ρ : Nat → Nat} {A : Nat → Prop} {b L : Nat} {xs : Nat → Int32} {t : Nat} {i0 : Int32} {u0 t0 : wSt} {v0 : Int64} {H : Heap} {locs : List Loc} {ls : Array Slot} {q : (Int32 × wSt × wSt × Int64) ⊕ Int32} {B : Int32 × wSt × wSt × Int64 → Option Int32} (hC : wCx p m c cL_law 7 s #[Value.ref b] RL D κ 0) (hC1 : wCx p m c cL_law 7 s #[Value.ref b] RL D κ 1) (hr : meth.sig.returnType = ret) (hlk : meth.locks = false) (hX : va_X b L xs s s.heap) (hbl : b < s.heap.size) (hbA : ¬ A b) (hG : wGst p l e s m below meth c b D κ ρ A) (hq : wJP q B 1) (hcs : 120 + 2 * t ≤ room_1.cells ∧ 6245 + 16 * t ≤ room_1.slots) (hcs2 : 120 + 2 * t + 2 ≤ 1146 ∧ 6245 + 16 * t + 16 ≤ 14449) (hcs3 : 120 + 2 * t + 2 ≤ room_1.cells ∧ 6245 + 16 * t + 16 ≤ room_1.slots) (hE : ∀ (u1 t1 : wSt) (v1 : Int64) (H : Heap) (locs : List Loc) (ls : Array Slot), B (i0 + (6 : Int32), u1, t1, v1) = some 1 → wH2 D κ ρ A s.heap H locs u1 t1 v1 → lv_has ls 7 [(0, .ref b), (1, .ref (ρ 0)), (2, .ref (ρ 79)), (3, .ref (ρ 119)), (4, .int i0)] → W p l e room_1 s m #[Value.ref b] below meth c H locs (120 + 2 * t + 2) (6245 + 16 * t + 16) (lw_Z below #[Value.ref b] s) (F0 m 1556 ls [])) (hF : F_law_c42 L xs i0 u0 t0 v0 = some q) (h2 : wH2 D κ ρ A s.heap H locs u0 t0 v0) (hl : lv_has ls 7 [(0, .ref b), (1, .ref (ρ 0)), (2, .ref (ρ 79)), (3, .ref (ρ 119)), (4, .int i0)]) : W p l e room_1 s m #[Value.ref b] below meth c H locs (120 + 2 * t) (6245 + 16 * t) (lw_Z below #[Value.ref b] s) (F0 m 1531 ls []) := by
  have hx := hC.1.1
  have hb := hC.1.2.1
  unfold F_law_c42 at hF
  refine lv_aload_n hx hb dL_law_1531 rfl (lv_at hl 1 rfl) ?_
  refine lv_aload_n hx hb dL_law_1532 rfl (lv_at hl 0 rfl) ?_
  refine lv_iload hx hb dL_law_1533 (lv_at hl 4 rfl) ?_
  refine lv_iconst hx hb dL_law_1535 k_iconst_1 ?_
  refine lv_iadd hx hb dL_law_1536 ?_
  refine wx_sld hx hb hX hbl hbA h2 dL_law_1537 hF (fun j279 hF => ?_)
  refine wl_e0i hC h2 hl (c_X8_count 0 (xs j279) rfl) y_X8_count v_X8_count rfl rfl m_L_203 rfl ⟨Nat.le_of_ble_eq_true rfl, Nat.le_of_ble_eq_true rfl⟩ hcs rfl (Nat.le_of_ble_eq_true rfl) dL_law_1538 hF (fun r280 u281 H locs hF h2 => ?_)
  refine lv_aload_n hx hb dL_law_1541 rfl (lv_at hl 2 rfl) ?_
  refine lv_aload_n hx hb dL_law_1542 rfl (lv_at hl 0 rfl) ?_
  refine lv_iload hx hb dL_law_1543 (lv_at hl 4 rfl) ?_
  refine lv_iconst hx hb dL_law_1545 k_iconst_1 ?_
  refine lv_iadd hx hb dL_law_1546 ?_
  refine wx_sld hx hb hX hbl hbA h2 dL_law_1547 hF (fun j282 hF => ?_)
  refine wl_e1i hC1 h2 hl (c_X9_count 79 (xs j282) rfl) y_X9_count v_X9_count rfl rfl m_L_206 rfl ⟨Nat.le_of_ble_eq_true rfl, Nat.le_of_ble_eq_true rfl⟩ hcs rfl (Nat.le_of_ble_eq_true rfl) dL_law_1548 hF (fun r283 t284 H locs hF h2 => ?_)
  refine lv_icmp_eq hx hb dL_law_1551 (tgt := 1556) rfl (fun h => ?_) (fun h => ?_)
  rotate_left
  · have hF := wx_f h hF
    exact absurd (wJ_r hq hF) (by decide)
  have hF := wx_t h hF
  have hF := wJ_l hq hF
  refine W.widen (k := 120 + 2 * t + 2) (n := 6245 + 16 * t + 16) (by omega) (by omega) ?_
  exact hE u281 t284 v0 H locs ls hF h2 (lv_sub hl [0, 1, 2, 3, 4] rfl)
