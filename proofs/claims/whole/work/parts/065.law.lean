def gl_0 (L : Nat) (xs : Nat → Int32) (o1 o2 o3 : Nat) (x4 : Int32) (S : PS) (K : PS → Prop) : Prop :=
  (ib (x4 + (1 : Int32)) L = true) ∧ ((ib (x4 + (2 : Int32)) L = true) ∧ ((ib (x4 + (3 : Int32)) L = true) ∧ ((ib (x4 + (4 : Int32)) L = true) ∧ ((ib (x4 + (5 : Int32)) L = true) ∧ ((ib (x4 + (6 : Int32)) L = true) ∧ (∃ q7, (f_X10_feed o1 (((Int32.toInt64 (xs (Int32.toNatClampNeg (x4 + (1 : Int32))))) <<< ((Int32.toInt64 (32 : Int32)) &&& 63)) ||| ((Int32.toInt64 (xs (Int32.toNatClampNeg (x4 + (2 : Int32))))) &&& (4294967295 : Int64))) (((Int32.toInt64 (xs (Int32.toNatClampNeg (x4 + (3 : Int32))))) <<< ((Int32.toInt64 (32 : Int32)) &&& 63)) ||| ((Int32.toInt64 (xs (Int32.toNatClampNeg (x4 + (4 : Int32))))) &&& (4294967295 : Int64))) (((Int32.toInt64 (xs (Int32.toNatClampNeg (x4 + (5 : Int32))))) <<< ((Int32.toInt64 (32 : Int32)) &&& 63)) ||| ((Int32.toInt64 (xs (Int32.toNatClampNeg (x4 + (6 : Int32))))) &&& (4294967295 : Int64))) S) = some q7 ∧ ((ib (x4 + (1 : Int32)) L = true) ∧ ((ib (x4 + (2 : Int32)) L = true) ∧ ((ib (x4 + (3 : Int32)) L = true) ∧ ((ib (x4 + (4 : Int32)) L = true) ∧ ((ib (x4 + (5 : Int32)) L = true) ∧ ((ib (x4 + (6 : Int32)) L = true) ∧ (∃ q14, (f_X11_feed o2 (((Int32.toInt64 (xs (Int32.toNatClampNeg (x4 + (1 : Int32))))) <<< ((Int32.toInt64 (32 : Int32)) &&& 63)) ||| ((Int32.toInt64 (xs (Int32.toNatClampNeg (x4 + (2 : Int32))))) &&& (4294967295 : Int64))) (((Int32.toInt64 (xs (Int32.toNatClampNeg (x4 + (3 : Int32))))) <<< ((Int32.toInt64 (32 : Int32)) &&& 63)) ||| ((Int32.toInt64 (xs (Int32.toNatClampNeg (x4 + (4 : Int32))))) &&& (4294967295 : Int64))) (((Int32.toInt64 (xs (Int32.toNatClampNeg (x4 + (5 : Int32))))) <<< ((Int32.toInt64 (32 : Int32)) &&& 63)) ||| ((Int32.toInt64 (xs (Int32.toNatClampNeg (x4 + (6 : Int32))))) &&& (4294967295 : Int64))) q7.2) = some q14 ∧ (((q7.1 = q14.1 → (K q14.2)) ∧ (¬ q7.1 = q14.1 → (False)))))))))))))))))
set_option maxHeartbeats 4000000 in
theorem lc_0 {p : Program} {l : Launch} {e : Env} {s : State} {m : MethodId} {args : Array Value} {below : List Frame} {meth : Method} {c : Code} {H : Heap} {locs : List Loc} {ls : Array Slot} {Q : State → Prop} {D : va_G} {cy : Nat → ClassId} {kc : Nat → Nat} {A : Nat → Prop} {b L : Nat} {xs : Nat → Int32} {c0 s0 : Nat} (hst : l.stackTraces = false) (E : CallFix p m c cL_law 8 s args LW RL) (F : Fx D cy kc A s) (hX : va_X b L xs s s.heap) (hbl : b < s.heap.size) (hbA : ¬ A b) (o1 o2 o3 : Nat) (x4 : Int32) (S : PS) {K : PS → Prop} (h : gl_0 L xs o1 o2 o3 x4 S K) (hc : c0 + 30 ≤ 601024) (hs : s0 + 9152 ≤ 7293034) (hw : Wd D cy A s H locs S) (t_o1 : tD S o1 10) (t_o2 : tD S o2 11) (t_o3 : tD S o3 14) (hl : lv_has ls 8 [(0, .ref b), (1, .ref o1), (2, .ref o2), (3, .ref o3), (4, .int x4)])
    (kk : ∀ (S1 : PS) (H : Heap) (locs : List Loc) (ls : Array Slot), K S1 → Wd D cy A s H locs S1 → tD S1 o1 10 → tD S1 o2 11 → tD S1 o3 14 → lv_has ls 8 [(0, .ref b), (1, .ref o1), (2, .ref o2), (3, .ref o3), (4, .int x4)] → W p l e room_1 s m args below meth c H locs (c0 + 30) (s0 + 9152) Q (F0 m 2580 ls [])) : W p l e room_1 s m args below meth c H locs c0 s0 Q (F0 m 196 ls []) := by
  have hx := E.1
  have hb := E.2.1
  have hg : Gr S S := Gr.rf
  rw [gl_0] at h
  refine lv_aload_n hx hb dL_law_196 rfl (lv_at hl 1 rfl) ?_
  refine lv_aload_n hx hb dL_law_197 rfl (lv_at hl 0 rfl) ?_
  refine lv_iload hx hb dL_law_198 (lv_at hl 4 rfl) ?_
  refine lv_iconst (v := 1) hx hb dL_law_200 (by decide) ?_
  refine lv_iadd hx hb dL_law_201 ?_
  obtain ⟨c1, h⟩ := h
  refine va_sld hx hb hX hbl hbA hw.2.2 (ib_in c1) dL_law_202 ?_
  refine lv_i2l hx hb dL_law_203 rfl ?_
  refine lv_bipush (v := 32) hx hb dL_law_204 (by decide) ?_
  refine lv_lshl hx hb dL_law_206 rfl ?_
  refine lv_aload_n hx hb dL_law_207 rfl (lv_at hl 0 rfl) ?_
  refine lv_iload hx hb dL_law_208 (lv_at hl 4 rfl) ?_
  refine lv_iconst (v := 2) hx hb dL_law_210 (by decide) ?_
  refine lv_iadd hx hb dL_law_211 ?_
  obtain ⟨c2, h⟩ := h
  refine va_sld hx hb hX hbl hbA hw.2.2 (ib_in c2) dL_law_212 ?_
  refine lv_i2l hx hb dL_law_213 rfl ?_
  refine lv_ldc2 hx hb E.2.2.2.1 (E.2.2.2.2 _ kl_L_79) dL_law_214 ?_
  refine lv_land hx hb dL_law_217 ?_
  refine lv_lor hx hb dL_law_218 ?_
  refine lv_aload_n hx hb dL_law_219 rfl (lv_at hl 0 rfl) ?_
  refine lv_iload hx hb dL_law_220 (lv_at hl 4 rfl) ?_
  refine lv_iconst (v := 3) hx hb dL_law_222 (by decide) ?_
  refine lv_iadd hx hb dL_law_223 ?_
  obtain ⟨c3, h⟩ := h
  refine va_sld hx hb hX hbl hbA hw.2.2 (ib_in c3) dL_law_224 ?_
  refine lv_i2l hx hb dL_law_225 rfl ?_
  refine lv_bipush (v := 32) hx hb dL_law_226 (by decide) ?_
  refine lv_lshl hx hb dL_law_228 rfl ?_
  refine lv_aload_n hx hb dL_law_229 rfl (lv_at hl 0 rfl) ?_
  refine lv_iload hx hb dL_law_230 (lv_at hl 4 rfl) ?_
  refine lv_iconst (v := 4) hx hb dL_law_232 (by decide) ?_
  refine lv_iadd hx hb dL_law_233 ?_
  obtain ⟨c4, h⟩ := h
  refine va_sld hx hb hX hbl hbA hw.2.2 (ib_in c4) dL_law_234 ?_
  refine lv_i2l hx hb dL_law_235 rfl ?_
  refine lv_ldc2 hx hb E.2.2.2.1 (E.2.2.2.2 _ kl_L_79) dL_law_236 ?_
  refine lv_land hx hb dL_law_239 ?_
  refine lv_lor hx hb dL_law_240 ?_
  refine lv_aload_n hx hb dL_law_241 rfl (lv_at hl 0 rfl) ?_
  refine lv_iload hx hb dL_law_242 (lv_at hl 4 rfl) ?_
  refine lv_iconst (v := 5) hx hb dL_law_244 (by decide) ?_
  refine lv_iadd hx hb dL_law_245 ?_
  obtain ⟨c5, h⟩ := h
  refine va_sld hx hb hX hbl hbA hw.2.2 (ib_in c5) dL_law_246 ?_
  refine lv_i2l hx hb dL_law_247 rfl ?_
  refine lv_bipush (v := 32) hx hb dL_law_248 (by decide) ?_
  refine lv_lshl hx hb dL_law_250 rfl ?_
  refine lv_aload_n hx hb dL_law_251 rfl (lv_at hl 0 rfl) ?_
  refine lv_iload hx hb dL_law_252 (lv_at hl 4 rfl) ?_
  refine lv_bipush (v := 6) hx hb dL_law_254 (by decide) ?_
  refine lv_iadd hx hb dL_law_256 ?_
  obtain ⟨c6, h⟩ := h
  refine va_sld hx hb hX hbl hbA hw.2.2 (ib_in c6) dL_law_257 ?_
  refine lv_i2l hx hb dL_law_258 rfl ?_
  refine lv_ldc2 hx hb E.2.2.2.1 (E.2.2.2.2 _ kl_L_79) dL_law_259 ?_
  refine lv_land hx hb dL_law_262 ?_
  refine lv_lor hx hb dL_law_263 ?_
  obtain ⟨q7, h_q7, h⟩ := h
  refine z_VI E F hw [.long (((Int32.toInt64 (xs (Int32.toNatClampNeg (x4 + (1 : Int32))))) <<< ((Int32.toInt64 (32 : Int32)) &&& 63)) ||| ((Int32.toInt64 (xs (Int32.toNatClampNeg (x4 + (2 : Int32))))) &&& (4294967295 : Int64))), .long (((Int32.toInt64 (xs (Int32.toNatClampNeg (x4 + (3 : Int32))))) <<< ((Int32.toInt64 (32 : Int32)) &&& 63)) ||| ((Int32.toInt64 (xs (Int32.toNatClampNeg (x4 + (4 : Int32))))) &&& (4294967295 : Int64))), .long (((Int32.toInt64 (xs (Int32.toNatClampNeg (x4 + (5 : Int32))))) <<< ((Int32.toInt64 (32 : Int32)) &&& 63)) ||| ((Int32.toInt64 (xs (Int32.toNatClampNeg (x4 + (6 : Int32))))) &&& (4294967295 : Int64)))] (k_X10_feed l D cy kc o1 (((Int32.toInt64 (xs (Int32.toNatClampNeg (x4 + (1 : Int32))))) <<< ((Int32.toInt64 (32 : Int32)) &&& 63)) ||| ((Int32.toInt64 (xs (Int32.toNatClampNeg (x4 + (2 : Int32))))) &&& (4294967295 : Int64))) (((Int32.toInt64 (xs (Int32.toNatClampNeg (x4 + (3 : Int32))))) <<< ((Int32.toInt64 (32 : Int32)) &&& 63)) ||| ((Int32.toInt64 (xs (Int32.toNatClampNeg (x4 + (4 : Int32))))) &&& (4294967295 : Int64))) (((Int32.toInt64 (xs (Int32.toNatClampNeg (x4 + (5 : Int32))))) <<< ((Int32.toInt64 (32 : Int32)) &&& 63)) ||| ((Int32.toInt64 (xs (Int32.toNatClampNeg (x4 + (6 : Int32))))) &&& (4294967295 : Int64))) S h_q7 t_o1) t_o1 cf10 mk_X10_feed vk_X10_feed ml_L_81 ⟨by decide, by decide⟩ rfl hl.1 rfl (Nat.le_of_ble_eq_true rfl) dL_law_264 ⟨(by first | omega | (simp only [rmK, room_1]; omega)), (by first | omega | (simp only [rmK, room_1]; omega))⟩ (fun H locs hw hG => ?_)
  have t_o1 := hG.t t_o1
  have t_o2 := hG.t t_o2
  have t_o3 := hG.t t_o3
  have hg := hg.tr hG
  refine lv_aload_n hx hb dL_law_267 rfl (lv_at hl 2 rfl) ?_
  refine lv_aload_n hx hb dL_law_268 rfl (lv_at hl 0 rfl) ?_
  refine lv_iload hx hb dL_law_269 (lv_at hl 4 rfl) ?_
  refine lv_iconst (v := 1) hx hb dL_law_271 (by decide) ?_
  refine lv_iadd hx hb dL_law_272 ?_
  obtain ⟨c8, h⟩ := h
  refine va_sld hx hb hX hbl hbA hw.2.2 (ib_in c8) dL_law_273 ?_
  refine lv_i2l hx hb dL_law_274 rfl ?_
  refine lv_bipush (v := 32) hx hb dL_law_275 (by decide) ?_
  refine lv_lshl hx hb dL_law_277 rfl ?_
  refine lv_aload_n hx hb dL_law_278 rfl (lv_at hl 0 rfl) ?_
  refine lv_iload hx hb dL_law_279 (lv_at hl 4 rfl) ?_
  refine lv_iconst (v := 2) hx hb dL_law_281 (by decide) ?_
  refine lv_iadd hx hb dL_law_282 ?_
  obtain ⟨c9, h⟩ := h
  refine va_sld hx hb hX hbl hbA hw.2.2 (ib_in c9) dL_law_283 ?_
  refine lv_i2l hx hb dL_law_284 rfl ?_
  refine lv_ldc2 hx hb E.2.2.2.1 (E.2.2.2.2 _ kl_L_79) dL_law_285 ?_
  refine lv_land hx hb dL_law_288 ?_
  refine lv_lor hx hb dL_law_289 ?_
  refine lv_aload_n hx hb dL_law_290 rfl (lv_at hl 0 rfl) ?_
  refine lv_iload hx hb dL_law_291 (lv_at hl 4 rfl) ?_
  refine lv_iconst (v := 3) hx hb dL_law_293 (by decide) ?_
  refine lv_iadd hx hb dL_law_294 ?_
  obtain ⟨c10, h⟩ := h
  refine va_sld hx hb hX hbl hbA hw.2.2 (ib_in c10) dL_law_295 ?_
  refine lv_i2l hx hb dL_law_296 rfl ?_
  refine lv_bipush (v := 32) hx hb dL_law_297 (by decide) ?_
  refine lv_lshl hx hb dL_law_299 rfl ?_
  refine lv_aload_n hx hb dL_law_300 rfl (lv_at hl 0 rfl) ?_
  refine lv_iload hx hb dL_law_301 (lv_at hl 4 rfl) ?_
  refine lv_iconst (v := 4) hx hb dL_law_303 (by decide) ?_
  refine lv_iadd hx hb dL_law_304 ?_
  obtain ⟨c11, h⟩ := h
  refine va_sld hx hb hX hbl hbA hw.2.2 (ib_in c11) dL_law_305 ?_
  refine lv_i2l hx hb dL_law_306 rfl ?_
  refine lv_ldc2 hx hb E.2.2.2.1 (E.2.2.2.2 _ kl_L_79) dL_law_307 ?_
  refine lv_land hx hb dL_law_310 ?_
  refine lv_lor hx hb dL_law_311 ?_
  refine lv_aload_n hx hb dL_law_312 rfl (lv_at hl 0 rfl) ?_
  refine lv_iload hx hb dL_law_313 (lv_at hl 4 rfl) ?_
  refine lv_iconst (v := 5) hx hb dL_law_315 (by decide) ?_
  refine lv_iadd hx hb dL_law_316 ?_
  obtain ⟨c12, h⟩ := h
  refine va_sld hx hb hX hbl hbA hw.2.2 (ib_in c12) dL_law_317 ?_
  refine lv_i2l hx hb dL_law_318 rfl ?_
  refine lv_bipush (v := 32) hx hb dL_law_319 (by decide) ?_
  refine lv_lshl hx hb dL_law_321 rfl ?_
  refine lv_aload_n hx hb dL_law_322 rfl (lv_at hl 0 rfl) ?_
  refine lv_iload hx hb dL_law_323 (lv_at hl 4 rfl) ?_
  refine lv_bipush (v := 6) hx hb dL_law_325 (by decide) ?_
  refine lv_iadd hx hb dL_law_327 ?_
  obtain ⟨c13, h⟩ := h
  refine va_sld hx hb hX hbl hbA hw.2.2 (ib_in c13) dL_law_328 ?_
  refine lv_i2l hx hb dL_law_329 rfl ?_
  refine lv_ldc2 hx hb E.2.2.2.1 (E.2.2.2.2 _ kl_L_79) dL_law_330 ?_
  refine lv_land hx hb dL_law_333 ?_
  refine lv_lor hx hb dL_law_334 ?_
  obtain ⟨q14, h_q14, h⟩ := h
  refine z_VI E F hw [.long (((Int32.toInt64 (xs (Int32.toNatClampNeg (x4 + (1 : Int32))))) <<< ((Int32.toInt64 (32 : Int32)) &&& 63)) ||| ((Int32.toInt64 (xs (Int32.toNatClampNeg (x4 + (2 : Int32))))) &&& (4294967295 : Int64))), .long (((Int32.toInt64 (xs (Int32.toNatClampNeg (x4 + (3 : Int32))))) <<< ((Int32.toInt64 (32 : Int32)) &&& 63)) ||| ((Int32.toInt64 (xs (Int32.toNatClampNeg (x4 + (4 : Int32))))) &&& (4294967295 : Int64))), .long (((Int32.toInt64 (xs (Int32.toNatClampNeg (x4 + (5 : Int32))))) <<< ((Int32.toInt64 (32 : Int32)) &&& 63)) ||| ((Int32.toInt64 (xs (Int32.toNatClampNeg (x4 + (6 : Int32))))) &&& (4294967295 : Int64)))] (k_X11_feed l D cy kc o2 (((Int32.toInt64 (xs (Int32.toNatClampNeg (x4 + (1 : Int32))))) <<< ((Int32.toInt64 (32 : Int32)) &&& 63)) ||| ((Int32.toInt64 (xs (Int32.toNatClampNeg (x4 + (2 : Int32))))) &&& (4294967295 : Int64))) (((Int32.toInt64 (xs (Int32.toNatClampNeg (x4 + (3 : Int32))))) <<< ((Int32.toInt64 (32 : Int32)) &&& 63)) ||| ((Int32.toInt64 (xs (Int32.toNatClampNeg (x4 + (4 : Int32))))) &&& (4294967295 : Int64))) (((Int32.toInt64 (xs (Int32.toNatClampNeg (x4 + (5 : Int32))))) <<< ((Int32.toInt64 (32 : Int32)) &&& 63)) ||| ((Int32.toInt64 (xs (Int32.toNatClampNeg (x4 + (6 : Int32))))) &&& (4294967295 : Int64))) q7.2 h_q14 t_o2) t_o2 cf11 mk_X11_feed vk_X11_feed ml_L_85 ⟨by decide, by decide⟩ rfl hl.1 rfl (Nat.le_of_ble_eq_true rfl) dL_law_335 ⟨(by first | omega | (simp only [rmK, room_1]; omega)), (by first | omega | (simp only [rmK, room_1]; omega))⟩ (fun H locs hw hG => ?_)
  have t_o1 := hG.t t_o1
  have t_o2 := hG.t t_o2
  have t_o3 := hG.t t_o3
  have hg := hg.tr hG
  refine lv_icmp_eq (tgt := 2580) hx hb dL_law_338 (by decide) (fun c15 => ?_) (fun c15 => ?_)
  · replace h := h.1 c15
    exact W.widen (by first | omega | (simp only [rmK, room_1]; omega)) (by first | omega | (simp only [rmK, room_1]; omega)) (kk q14.2 _ _ _ h hw t_o1 t_o2 t_o3 (lv_sub hl [0, 1, 2, 3, 4] rfl))
  · replace h := h.2 c15
    exact h.elim
def gl_1 (L : Nat) (xs : Nat → Int32) (o1 o2 o3 : Nat) (x4 : Int32) (S : PS) (K : PS → Prop) : Prop :=
  g_X10_village o1 S (fun (r2 : Int32) (S1 : PS) => (∃ q3, (f_X11_village o2 S1) = some q3 ∧ (((r2 = q3.1 → (K q3.2)) ∧ (¬ r2 = q3.1 → (False))))))
set_option maxHeartbeats 4000000 in
theorem lc_1 {p : Program} {l : Launch} {e : Env} {s : State} {m : MethodId} {args : Array Value} {below : List Frame} {meth : Method} {c : Code} {H : Heap} {locs : List Loc} {ls : Array Slot} {Q : State → Prop} {D : va_G} {cy : Nat → ClassId} {kc : Nat → Nat} {A : Nat → Prop} {b L : Nat} {xs : Nat → Int32} {c0 s0 : Nat} (hst : l.stackTraces = false) (E : CallFix p m c cL_law 8 s args LW RL) (F : Fx D cy kc A s) (hX : va_X b L xs s s.heap) (hbl : b < s.heap.size) (hbA : ¬ A b) (o1 o2 o3 : Nat) (x4 : Int32) (S : PS) {K : PS → Prop} (h : gl_1 L xs o1 o2 o3 x4 S K) (hc : c0 + 30 ≤ 601024) (hs : s0 + 9152 ≤ 7293034) (hw : Wd D cy A s H locs S) (t_o1 : tD S o1 10) (t_o2 : tD S o2 11) (t_o3 : tD S o3 14) (hl : lv_has ls 8 [(0, .ref b), (1, .ref o1), (2, .ref o2), (3, .ref o3), (4, .int x4)])
    (kk : ∀ (S1 : PS) (H : Heap) (locs : List Loc) (ls : Array Slot), K S1 → Wd D cy A s H locs S1 → tD S1 o1 10 → tD S1 o2 11 → tD S1 o3 14 → lv_has ls 8 [(0, .ref b), (1, .ref o1), (2, .ref o2), (3, .ref o3), (4, .int x4)] → W p l e room_1 s m args below meth c H locs (c0 + 30) (s0 + 9152) Q (F0 m 2580 ls [])) : W p l e room_1 s m args below meth c H locs c0 s0 Q (F0 m 343 ls []) := by
  have hx := E.1
  have hb := E.2.1
  have hg : Gr S S := Gr.rf
  rw [gl_1] at h
  refine lv_aload_n hx hb dL_law_343 rfl (lv_at hl 1 rfl) ?_
  refine g_VI E F hw [] (k_X10_village l D cy kc o1 S h t_o1) t_o1 cf10 mk_X10_village vk_X10_village ml_L_86 ⟨by decide, by decide⟩ rfl hl.1 rfl (Nat.le_of_ble_eq_true rfl) dL_law_344 ⟨(by first | omega | (simp only [rmK, room_1]; omega)), (by first | omega | (simp only [rmK, room_1]; omega))⟩ (fun r2 S1 H locs h hw hG => ?_)
  have t_o1 := hG.t t_o1
  have t_o2 := hG.t t_o2
  have t_o3 := hG.t t_o3
  have hg := hg.tr hG
  refine lv_aload_n hx hb dL_law_347 rfl (lv_at hl 2 rfl) ?_
  obtain ⟨q3, h_q3, h⟩ := h
  refine z_VI E F hw [] (k_X11_village l D cy kc o2 S1 h_q3 t_o2) t_o2 cf11 mk_X11_village vk_X11_village ml_L_90 ⟨by decide, by decide⟩ rfl hl.1 rfl (Nat.le_of_ble_eq_true rfl) dL_law_348 ⟨(by first | omega | (simp only [rmK, room_1]; omega)), (by first | omega | (simp only [rmK, room_1]; omega))⟩ (fun H locs hw hG => ?_)
  have t_o1 := hG.t t_o1
  have t_o2 := hG.t t_o2
  have t_o3 := hG.t t_o3
  have hg := hg.tr hG
  refine lv_icmp_eq (tgt := 2580) hx hb dL_law_351 (by decide) (fun c4 => ?_) (fun c4 => ?_)
  · replace h := h.1 c4
    exact W.widen (by first | omega | (simp only [rmK, room_1]; omega)) (by first | omega | (simp only [rmK, room_1]; omega)) (kk q3.2 _ _ _ h hw t_o1 t_o2 t_o3 (lv_sub hl [0, 1, 2, 3, 4] rfl))
  · replace h := h.2 c4
    exact h.elim
def gl_2 (L : Nat) (xs : Nat → Int32) (o1 o2 o3 : Nat) (x4 : Int32) (S : PS) (K : PS → Prop) : Prop :=
  (ib (x4 + (1 : Int32)) L = true) ∧ ((ib (x4 + (2 : Int32)) L = true) ∧ (∃ q3, (f_X10_thing o1 (xs (Int32.toNatClampNeg (x4 + (1 : Int32)))) (xs (Int32.toNatClampNeg (x4 + (2 : Int32)))) S) = some q3 ∧ ((ib (x4 + (1 : Int32)) L = true) ∧ ((ib (x4 + (2 : Int32)) L = true) ∧ (∃ q6, (f_X11_thing o2 (xs (Int32.toNatClampNeg (x4 + (1 : Int32)))) (xs (Int32.toNatClampNeg (x4 + (2 : Int32)))) q3.2) = some q6 ∧ (((q3.1 = q6.1 → (K q6.2)) ∧ (¬ q3.1 = q6.1 → (False)))))))))
set_option maxHeartbeats 4000000 in
theorem lc_2 {p : Program} {l : Launch} {e : Env} {s : State} {m : MethodId} {args : Array Value} {below : List Frame} {meth : Method} {c : Code} {H : Heap} {locs : List Loc} {ls : Array Slot} {Q : State → Prop} {D : va_G} {cy : Nat → ClassId} {kc : Nat → Nat} {A : Nat → Prop} {b L : Nat} {xs : Nat → Int32} {c0 s0 : Nat} (hst : l.stackTraces = false) (E : CallFix p m c cL_law 8 s args LW RL) (F : Fx D cy kc A s) (hX : va_X b L xs s s.heap) (hbl : b < s.heap.size) (hbA : ¬ A b) (o1 o2 o3 : Nat) (x4 : Int32) (S : PS) {K : PS → Prop} (h : gl_2 L xs o1 o2 o3 x4 S K) (hc : c0 + 30 ≤ 601024) (hs : s0 + 9152 ≤ 7293034) (hw : Wd D cy A s H locs S) (t_o1 : tD S o1 10) (t_o2 : tD S o2 11) (t_o3 : tD S o3 14) (hl : lv_has ls 8 [(0, .ref b), (1, .ref o1), (2, .ref o2), (3, .ref o3), (4, .int x4)])
    (kk : ∀ (S1 : PS) (H : Heap) (locs : List Loc) (ls : Array Slot), K S1 → Wd D cy A s H locs S1 → tD S1 o1 10 → tD S1 o2 11 → tD S1 o3 14 → lv_has ls 8 [(0, .ref b), (1, .ref o1), (2, .ref o2), (3, .ref o3), (4, .int x4)] → W p l e room_1 s m args below meth c H locs (c0 + 30) (s0 + 9152) Q (F0 m 2580 ls [])) : W p l e room_1 s m args below meth c H locs c0 s0 Q (F0 m 356 ls []) := by
  have hx := E.1
  have hb := E.2.1
  have hg : Gr S S := Gr.rf
  rw [gl_2] at h
  refine lv_aload_n hx hb dL_law_356 rfl (lv_at hl 1 rfl) ?_
  refine lv_aload_n hx hb dL_law_357 rfl (lv_at hl 0 rfl) ?_
  refine lv_iload hx hb dL_law_358 (lv_at hl 4 rfl) ?_
  refine lv_iconst (v := 1) hx hb dL_law_360 (by decide) ?_
  refine lv_iadd hx hb dL_law_361 ?_
  obtain ⟨c1, h⟩ := h
  refine va_sld hx hb hX hbl hbA hw.2.2 (ib_in c1) dL_law_362 ?_
  refine lv_aload_n hx hb dL_law_363 rfl (lv_at hl 0 rfl) ?_
  refine lv_iload hx hb dL_law_364 (lv_at hl 4 rfl) ?_
  refine lv_iconst (v := 2) hx hb dL_law_366 (by decide) ?_
  refine lv_iadd hx hb dL_law_367 ?_
  obtain ⟨c2, h⟩ := h
  refine va_sld hx hb hX hbl hbA hw.2.2 (ib_in c2) dL_law_368 ?_
  obtain ⟨q3, h_q3, h⟩ := h
  refine z_VI E F hw [.int (xs (Int32.toNatClampNeg (x4 + (1 : Int32)))), .int (xs (Int32.toNatClampNeg (x4 + (2 : Int32))))] (k_X10_thing l D cy kc o1 (xs (Int32.toNatClampNeg (x4 + (1 : Int32)))) (xs (Int32.toNatClampNeg (x4 + (2 : Int32)))) S h_q3 t_o1) t_o1 cf10 mk_X10_thing vk_X10_thing ml_L_91 ⟨by decide, by decide⟩ rfl hl.1 rfl (Nat.le_of_ble_eq_true rfl) dL_law_369 ⟨(by first | omega | (simp only [rmK, room_1]; omega)), (by first | omega | (simp only [rmK, room_1]; omega))⟩ (fun H locs hw hG => ?_)
  have t_o1 := hG.t t_o1
  have t_o2 := hG.t t_o2
  have t_o3 := hG.t t_o3
  have hg := hg.tr hG
  refine lv_aload_n hx hb dL_law_372 rfl (lv_at hl 2 rfl) ?_
  refine lv_aload_n hx hb dL_law_373 rfl (lv_at hl 0 rfl) ?_
  refine lv_iload hx hb dL_law_374 (lv_at hl 4 rfl) ?_
  refine lv_iconst (v := 1) hx hb dL_law_376 (by decide) ?_
  refine lv_iadd hx hb dL_law_377 ?_
  obtain ⟨c4, h⟩ := h
  refine va_sld hx hb hX hbl hbA hw.2.2 (ib_in c4) dL_law_378 ?_
  refine lv_aload_n hx hb dL_law_379 rfl (lv_at hl 0 rfl) ?_
  refine lv_iload hx hb dL_law_380 (lv_at hl 4 rfl) ?_
  refine lv_iconst (v := 2) hx hb dL_law_382 (by decide) ?_
  refine lv_iadd hx hb dL_law_383 ?_
  obtain ⟨c5, h⟩ := h
  refine va_sld hx hb hX hbl hbA hw.2.2 (ib_in c5) dL_law_384 ?_
  obtain ⟨q6, h_q6, h⟩ := h
  refine z_VI E F hw [.int (xs (Int32.toNatClampNeg (x4 + (1 : Int32)))), .int (xs (Int32.toNatClampNeg (x4 + (2 : Int32))))] (k_X11_thing l D cy kc o2 (xs (Int32.toNatClampNeg (x4 + (1 : Int32)))) (xs (Int32.toNatClampNeg (x4 + (2 : Int32)))) q3.2 h_q6 t_o2) t_o2 cf11 mk_X11_thing vk_X11_thing ml_L_95 ⟨by decide, by decide⟩ rfl hl.1 rfl (Nat.le_of_ble_eq_true rfl) dL_law_385 ⟨(by first | omega | (simp only [rmK, room_1]; omega)), (by first | omega | (simp only [rmK, room_1]; omega))⟩ (fun H locs hw hG => ?_)
  have t_o1 := hG.t t_o1
  have t_o2 := hG.t t_o2
  have t_o3 := hG.t t_o3
  have hg := hg.tr hG
  refine lv_icmp_eq (tgt := 2580) hx hb dL_law_388 (by decide) (fun c7 => ?_) (fun c7 => ?_)
  · replace h := h.1 c7
    exact W.widen (by first | omega | (simp only [rmK, room_1]; omega)) (by first | omega | (simp only [rmK, room_1]; omega)) (kk q6.2 _ _ _ h hw t_o1 t_o2 t_o3 (lv_sub hl [0, 1, 2, 3, 4] rfl))
  · replace h := h.2 c7
    exact h.elim
def gl_3 (L : Nat) (xs : Nat → Int32) (o1 o2 o3 : Nat) (x4 : Int32) (S : PS) (K : PS → Prop) : Prop :=
  (ib (x4 + (1 : Int32)) L = true) ∧ ((ib (x4 + (2 : Int32)) L = true) ∧ ((ib (x4 + (3 : Int32)) L = true) ∧ ((ib (x4 + (4 : Int32)) L = true) ∧ (g_L_worth o1 (xs (Int32.toNatClampNeg (x4 + (1 : Int32)))) (xs (Int32.toNatClampNeg (x4 + (2 : Int32)))) (xs (Int32.toNatClampNeg (x4 + (3 : Int32)))) (xs (Int32.toNatClampNeg (x4 + (4 : Int32)))) o3 S (fun (r6 : Int32) (S5 : PS) => ((ib (x4 + (1 : Int32)) L = true) ∧ ((ib (x4 + (2 : Int32)) L = true) ∧ ((ib (x4 + (3 : Int32)) L = true) ∧ ((ib (x4 + (4 : Int32)) L = true) ∧ (∃ q11, (f_X11_worth o2 (xs (Int32.toNatClampNeg (x4 + (1 : Int32)))) (xs (Int32.toNatClampNeg (x4 + (2 : Int32)))) (xs (Int32.toNatClampNeg (x4 + (3 : Int32)))) (xs (Int32.toNatClampNeg (x4 + (4 : Int32)))) S5) = some q11 ∧ (∃ q12, (f_X11_thrown o2 q11.2) = some q12 ∧ (((q12.1 = r6 → (((r6 = (0 : Int32) → ((ib (0 : Int32) (sN q12.2 o3) = true) ∧ ((((lg_cmp (sJ q12.2 o3 (Int32.toNatClampNeg (0 : Int32))) (Int32.toInt64 q11.1)) = (0 : Int32) → (K q12.2)) ∧ (¬ (lg_cmp (sJ q12.2 o3 (Int32.toNatClampNeg (0 : Int32))) (Int32.toInt64 q11.1)) = (0 : Int32) → (False)))))) ∧ (¬ r6 = (0 : Int32) → (K q12.2))))) ∧ (¬ q12.1 = r6 → (False)))))))))))))))
set_option maxHeartbeats 4000000 in
theorem lc_3 {p : Program} {l : Launch} {e : Env} {s : State} {m : MethodId} {args : Array Value} {below : List Frame} {meth : Method} {c : Code} {H : Heap} {locs : List Loc} {ls : Array Slot} {Q : State → Prop} {D : va_G} {cy : Nat → ClassId} {kc : Nat → Nat} {A : Nat → Prop} {b L : Nat} {xs : Nat → Int32} {c0 s0 : Nat} (hst : l.stackTraces = false) (E : CallFix p m c cL_law 8 s args LW RL) (F : Fx D cy kc A s) (hX : va_X b L xs s s.heap) (hbl : b < s.heap.size) (hbA : ¬ A b) (o1 o2 o3 : Nat) (x4 : Int32) (S : PS) {K : PS → Prop} (h : gl_3 L xs o1 o2 o3 x4 S K) (hc : c0 + 30 ≤ 601024) (hs : s0 + 9152 ≤ 7293034) (hw : Wd D cy A s H locs S) (t_o1 : tD S o1 10) (t_o2 : tD S o2 11) (t_o3 : tD S o3 14) (hl : lv_has ls 8 [(0, .ref b), (1, .ref o1), (2, .ref o2), (3, .ref o3), (4, .int x4)])
    (kk : ∀ (S1 : PS) (H : Heap) (locs : List Loc) (ls : Array Slot), K S1 → Wd D cy A s H locs S1 → tD S1 o1 10 → tD S1 o2 11 → tD S1 o3 14 → lv_has ls 8 [(0, .ref b), (1, .ref o1), (2, .ref o2), (3, .ref o3), (4, .int x4)] → W p l e room_1 s m args below meth c H locs (c0 + 30) (s0 + 9152) Q (F0 m 2580 ls [])) : W p l e room_1 s m args below meth c H locs c0 s0 Q (F0 m 393 ls []) := by
  have hx := E.1
  have hb := E.2.1
  have hg : Gr S S := Gr.rf
  rw [gl_3] at h
  refine lv_aload_n hx hb dL_law_393 rfl (lv_at hl 1 rfl) ?_
  refine lv_aload_n hx hb dL_law_394 rfl (lv_at hl 0 rfl) ?_
  refine lv_iload hx hb dL_law_395 (lv_at hl 4 rfl) ?_
  refine lv_iconst (v := 1) hx hb dL_law_397 (by decide) ?_
  refine lv_iadd hx hb dL_law_398 ?_
  obtain ⟨c1, h⟩ := h
  refine va_sld hx hb hX hbl hbA hw.2.2 (ib_in c1) dL_law_399 ?_
  refine lv_aload_n hx hb dL_law_400 rfl (lv_at hl 0 rfl) ?_
  refine lv_iload hx hb dL_law_401 (lv_at hl 4 rfl) ?_
  refine lv_iconst (v := 2) hx hb dL_law_403 (by decide) ?_
  refine lv_iadd hx hb dL_law_404 ?_
  obtain ⟨c2, h⟩ := h
  refine va_sld hx hb hX hbl hbA hw.2.2 (ib_in c2) dL_law_405 ?_
  refine lv_aload_n hx hb dL_law_406 rfl (lv_at hl 0 rfl) ?_
  refine lv_iload hx hb dL_law_407 (lv_at hl 4 rfl) ?_
  refine lv_iconst (v := 3) hx hb dL_law_409 (by decide) ?_
  refine lv_iadd hx hb dL_law_410 ?_
  obtain ⟨c3, h⟩ := h
  refine va_sld hx hb hX hbl hbA hw.2.2 (ib_in c3) dL_law_411 ?_
  refine lv_aload_n hx hb dL_law_412 rfl (lv_at hl 0 rfl) ?_
  refine lv_iload hx hb dL_law_413 (lv_at hl 4 rfl) ?_
  refine lv_iconst (v := 4) hx hb dL_law_415 (by decide) ?_
  refine lv_iadd hx hb dL_law_416 ?_
  obtain ⟨c4, h⟩ := h
  refine va_sld hx hb hX hbl hbA hw.2.2 (ib_in c4) dL_law_417 ?_
  refine lv_aload_n hx hb dL_law_418 rfl (lv_at hl 3 rfl) ?_
  refine l_SI E F hw [.ref o1, .int (xs (Int32.toNatClampNeg (x4 + (1 : Int32)))), .int (xs (Int32.toNatClampNeg (x4 + (2 : Int32)))), .int (xs (Int32.toNatClampNeg (x4 + (3 : Int32)))), .int (xs (Int32.toNatClampNeg (x4 + (4 : Int32)))), .ref o3] (k_L_worth l hst D cy kc o1 (xs (Int32.toNatClampNeg (x4 + (1 : Int32)))) (xs (Int32.toNatClampNeg (x4 + (2 : Int32)))) (xs (Int32.toNatClampNeg (x4 + (3 : Int32)))) (xs (Int32.toNatClampNeg (x4 + (4 : Int32)))) o3 S h t_o1 t_o3) lk_L_worth ml_L_96 ⟨by decide, by decide⟩ rfl hl.1 rfl (Nat.le_of_ble_eq_true rfl) dL_law_419 ⟨(by first | omega | (simp only [rmK, room_1]; omega)), (by first | omega | (simp only [rmK, room_1]; omega))⟩ (fun r6 S5 H locs h hw hG => ?_)
  have t_o1 := hG.t t_o1
  have t_o2 := hG.t t_o2
  have t_o3 := hG.t t_o3
  have hg := hg.tr hG
  refine lv_istore (lv' := [(5, .int r6), (0, .ref b), (1, .ref o1), (2, .ref o2), (3, .ref o3), (4, .int x4)]) hx hb dL_law_422 hl (by decide) rfl (fun ls hl => ?_)
  refine lv_aload_n hx hb dL_law_424 rfl (lv_at hl 3 rfl) ?_
  refine lv_aload_n hx hb dL_law_425 rfl (lv_at hl 1 rfl) ?_
  refine lv_iload hx hb dL_law_426 (lv_at hl 5 rfl) ?_
  refine lv_iconst (v := 1) hx hb dL_law_428 (by decide) ?_
  refine lv_iadd hx hb dL_law_429 ?_
  obtain ⟨c7, h⟩ := h
  refine va_sld hx hb hX hbl hbA hw.2.2 (ib_in c7) dL_law_430 ?_
  refine lv_aload_n hx hb dL_law_431 rfl (lv_at hl 1 rfl) ?_
  refine lv_iload hx hb dL_law_432 (lv_at hl 5 rfl) ?_
  refine lv_iconst (v := 2) hx hb dL_law_434 (by decide) ?_
  refine lv_iadd hx hb dL_law_435 ?_
  obtain ⟨c8, h⟩ := h
  refine va_sld hx hb hX hbl hbA hw.2.2 (ib_in c8) dL_law_436 ?_
  refine lv_aload_n hx hb dL_law_437 rfl (lv_at hl 1 rfl) ?_
  refine lv_iload hx hb dL_law_438 (lv_at hl 5 rfl) ?_
  refine lv_iconst (v := 3) hx hb dL_law_440 (by decide) ?_
  refine lv_iadd hx hb dL_law_441 ?_
  obtain ⟨c9, h⟩ := h
  refine va_sld hx hb hX hbl hbA hw.2.2 (ib_in c9) dL_law_442 ?_
  refine lv_aload_n hx hb dL_law_443 rfl (lv_at hl 1 rfl) ?_
  refine lv_iload hx hb dL_law_444 (lv_at hl 5 rfl) ?_
  refine lv_iconst (v := 4) hx hb dL_law_446 (by decide) ?_
  refine lv_iadd hx hb dL_law_447 ?_
  obtain ⟨c10, h⟩ := h
  refine va_sld hx hb hX hbl hbA hw.2.2 (ib_in c10) dL_law_448 ?_
  obtain ⟨q11, h_q11, h⟩ := h
  refine z_VI E F hw [.int (xs (Int32.toNatClampNeg (x4 + (1 : Int32)))), .int (xs (Int32.toNatClampNeg (x4 + (2 : Int32)))), .int (xs (Int32.toNatClampNeg (x4 + (3 : Int32)))), .int (xs (Int32.toNatClampNeg (x4 + (4 : Int32))))] (k_X11_worth l D cy kc o2 (xs (Int32.toNatClampNeg (x4 + (1 : Int32)))) (xs (Int32.toNatClampNeg (x4 + (2 : Int32)))) (xs (Int32.toNatClampNeg (x4 + (3 : Int32)))) (xs (Int32.toNatClampNeg (x4 + (4 : Int32)))) S5 h_q11 t_o2) t_o2 cf11 mk_X11_worth vk_X11_worth ml_L_101 ⟨by decide, by decide⟩ rfl hl.1 rfl (Nat.le_of_ble_eq_true rfl) dL_law_449 ⟨(by first | omega | (simp only [rmK, room_1]; omega)), (by first | omega | (simp only [rmK, room_1]; omega))⟩ (fun H locs hw hG => ?_)
  have t_o1 := hG.t t_o1
  have t_o2 := hG.t t_o2
  have t_o3 := hG.t t_o3
  have hg := hg.tr hG
  refine lv_istore (lv' := [(6, .int q11.1), (5, .int r6), (0, .ref b), (1, .ref o1), (2, .ref o2), (3, .ref o3), (4, .int x4)]) hx hb dL_law_452 hl (by decide) rfl (fun ls hl => ?_)
  refine lv_aload_n hx hb dL_law_454 rfl (lv_at hl 4 rfl) ?_
  obtain ⟨q12, h_q12, h⟩ := h
  refine z_VI E F hw [] (k_X11_thrown l D cy kc o2 q11.2 h_q12 t_o2) t_o2 cf11 mk_X11_thrown vk_X11_thrown ml_L_102 ⟨by decide, by decide⟩ rfl hl.1 rfl (Nat.le_of_ble_eq_true rfl) dL_law_455 ⟨(by first | omega | (simp only [rmK, room_1]; omega)), (by first | omega | (simp only [rmK, room_1]; omega))⟩ (fun H locs hw hG => ?_)
  have t_o1 := hG.t t_o1
  have t_o2 := hG.t t_o2
  have t_o3 := hG.t t_o3
  have hg := hg.tr hG
  refine lv_iload hx hb dL_law_458 (lv_at hl 1 rfl) ?_
  refine lv_icmp_eq (tgt := 465) hx hb dL_law_460 (by decide) (fun c13 => ?_) (fun c13 => ?_)
  · replace h := h.1 c13
    refine lv_iload hx hb dL_law_465 (lv_at hl 1 rfl) ?_
    refine lv_if_ne (tgt := 482) hx hb dL_law_467 (by decide) (fun c14 => ?_) (fun c14 => ?_)
    · replace h := h.2 c14
      refine lv_goto (tgt := 2580) hx hb dL_law_482 (by decide) ?_
      exact W.widen (by first | omega | (simp only [rmK, room_1]; omega)) (by first | omega | (simp only [rmK, room_1]; omega)) (kk q12.2 _ _ _ h hw t_o1 t_o2 t_o3 (lv_sub hl [2, 3, 4, 5, 6] rfl))
    · replace h := h.1 c14
      refine lv_aload_n hx hb dL_law_470 rfl (lv_at hl 5 rfl) ?_
      refine lv_iconst (v := 0) hx hb dL_law_471 (by decide) ?_
      obtain ⟨c15, h⟩ := h
      refine a_j E F hw t_o3 c15 dL_law_472 ?_
      refine lv_iload hx hb dL_law_473 (lv_at hl 0 rfl) ?_
      refine lv_i2l hx hb dL_law_475 rfl ?_
      refine W.lcmp hx hb dL_law_476 ?_
      refine lv_if_eq (tgt := 482) hx hb dL_law_477 (by decide) (fun c16 => ?_) (fun c16 => ?_)
      · replace h := h.1 c16
        refine lv_goto (tgt := 2580) hx hb dL_law_482 (by decide) ?_
        exact W.widen (by first | omega | (simp only [rmK, room_1]; omega)) (by first | omega | (simp only [rmK, room_1]; omega)) (kk q12.2 _ _ _ h hw t_o1 t_o2 t_o3 (lv_sub hl [2, 3, 4, 5, 6] rfl))
      · replace h := h.2 c16
        exact h.elim
  · replace h := h.2 c13
    exact h.elim
def gl_4 (L : Nat) (xs : Nat → Int32) (o1 o2 o3 : Nat) (x4 : Int32) (S : PS) (K : PS → Prop) : Prop :=
  (ib (x4 + (1 : Int32)) L = true) ∧ ((ib (x4 + (2 : Int32)) L = true) ∧ ((ib (x4 + (3 : Int32)) L = true) ∧ ((ib (x4 + (4 : Int32)) L = true) ∧ (∃ q5, (f_X10_may o1 (xs (Int32.toNatClampNeg (x4 + (1 : Int32)))) (xs (Int32.toNatClampNeg (x4 + (2 : Int32)))) (xs (Int32.toNatClampNeg (x4 + (3 : Int32)))) (xs (Int32.toNatClampNeg (x4 + (4 : Int32)))) S) = some q5 ∧ ((ib (x4 + (1 : Int32)) L = true) ∧ ((ib (x4 + (2 : Int32)) L = true) ∧ ((ib (x4 + (3 : Int32)) L = true) ∧ ((ib (x4 + (4 : Int32)) L = true) ∧ (∃ q10, (f_X11_may o2 (xs (Int32.toNatClampNeg (x4 + (1 : Int32)))) (xs (Int32.toNatClampNeg (x4 + (2 : Int32)))) (xs (Int32.toNatClampNeg (x4 + (3 : Int32)))) (xs (Int32.toNatClampNeg (x4 + (4 : Int32)))) q5.2) = some q10 ∧ (((q5.1 = q10.1 → (K q10.2)) ∧ (¬ q5.1 = q10.1 → (False)))))))))))))
set_option maxHeartbeats 4000000 in
theorem lc_4 {p : Program} {l : Launch} {e : Env} {s : State} {m : MethodId} {args : Array Value} {below : List Frame} {meth : Method} {c : Code} {H : Heap} {locs : List Loc} {ls : Array Slot} {Q : State → Prop} {D : va_G} {cy : Nat → ClassId} {kc : Nat → Nat} {A : Nat → Prop} {b L : Nat} {xs : Nat → Int32} {c0 s0 : Nat} (hst : l.stackTraces = false) (E : CallFix p m c cL_law 8 s args LW RL) (F : Fx D cy kc A s) (hX : va_X b L xs s s.heap) (hbl : b < s.heap.size) (hbA : ¬ A b) (o1 o2 o3 : Nat) (x4 : Int32) (S : PS) {K : PS → Prop} (h : gl_4 L xs o1 o2 o3 x4 S K) (hc : c0 + 30 ≤ 601024) (hs : s0 + 9152 ≤ 7293034) (hw : Wd D cy A s H locs S) (t_o1 : tD S o1 10) (t_o2 : tD S o2 11) (t_o3 : tD S o3 14) (hl : lv_has ls 8 [(0, .ref b), (1, .ref o1), (2, .ref o2), (3, .ref o3), (4, .int x4)])
    (kk : ∀ (S1 : PS) (H : Heap) (locs : List Loc) (ls : Array Slot), K S1 → Wd D cy A s H locs S1 → tD S1 o1 10 → tD S1 o2 11 → tD S1 o3 14 → lv_has ls 8 [(0, .ref b), (1, .ref o1), (2, .ref o2), (3, .ref o3), (4, .int x4)] → W p l e room_1 s m args below meth c H locs (c0 + 30) (s0 + 9152) Q (F0 m 2580 ls [])) : W p l e room_1 s m args below meth c H locs c0 s0 Q (F0 m 485 ls []) := by
  have hx := E.1
  have hb := E.2.1
  have hg : Gr S S := Gr.rf
  rw [gl_4] at h
  refine lv_aload_n hx hb dL_law_485 rfl (lv_at hl 1 rfl) ?_
  refine lv_aload_n hx hb dL_law_486 rfl (lv_at hl 0 rfl) ?_
  refine lv_iload hx hb dL_law_487 (lv_at hl 4 rfl) ?_
  refine lv_iconst (v := 1) hx hb dL_law_489 (by decide) ?_
  refine lv_iadd hx hb dL_law_490 ?_
  obtain ⟨c1, h⟩ := h
  refine va_sld hx hb hX hbl hbA hw.2.2 (ib_in c1) dL_law_491 ?_
  refine lv_aload_n hx hb dL_law_492 rfl (lv_at hl 0 rfl) ?_
  refine lv_iload hx hb dL_law_493 (lv_at hl 4 rfl) ?_
  refine lv_iconst (v := 2) hx hb dL_law_495 (by decide) ?_
  refine lv_iadd hx hb dL_law_496 ?_
  obtain ⟨c2, h⟩ := h
  refine va_sld hx hb hX hbl hbA hw.2.2 (ib_in c2) dL_law_497 ?_
  refine lv_aload_n hx hb dL_law_498 rfl (lv_at hl 0 rfl) ?_
  refine lv_iload hx hb dL_law_499 (lv_at hl 4 rfl) ?_
  refine lv_iconst (v := 3) hx hb dL_law_501 (by decide) ?_
  refine lv_iadd hx hb dL_law_502 ?_
  obtain ⟨c3, h⟩ := h
  refine va_sld hx hb hX hbl hbA hw.2.2 (ib_in c3) dL_law_503 ?_
  refine lv_aload_n hx hb dL_law_504 rfl (lv_at hl 0 rfl) ?_
  refine lv_iload hx hb dL_law_505 (lv_at hl 4 rfl) ?_
  refine lv_iconst (v := 4) hx hb dL_law_507 (by decide) ?_
  refine lv_iadd hx hb dL_law_508 ?_
  obtain ⟨c4, h⟩ := h
  refine va_sld hx hb hX hbl hbA hw.2.2 (ib_in c4) dL_law_509 ?_
  obtain ⟨q5, h_q5, h⟩ := h
  refine z_VI E F hw [.int (xs (Int32.toNatClampNeg (x4 + (1 : Int32)))), .int (xs (Int32.toNatClampNeg (x4 + (2 : Int32)))), .int (xs (Int32.toNatClampNeg (x4 + (3 : Int32)))), .int (xs (Int32.toNatClampNeg (x4 + (4 : Int32))))] (k_X10_may l D cy kc o1 (xs (Int32.toNatClampNeg (x4 + (1 : Int32)))) (xs (Int32.toNatClampNeg (x4 + (2 : Int32)))) (xs (Int32.toNatClampNeg (x4 + (3 : Int32)))) (xs (Int32.toNatClampNeg (x4 + (4 : Int32)))) S h_q5 t_o1) t_o1 cf10 mk_X10_may vk_X10_may ml_L_105 ⟨by decide, by decide⟩ rfl hl.1 rfl (Nat.le_of_ble_eq_true rfl) dL_law_510 ⟨(by first | omega | (simp only [rmK, room_1]; omega)), (by first | omega | (simp only [rmK, room_1]; omega))⟩ (fun H locs hw hG => ?_)
  have t_o1 := hG.t t_o1
  have t_o2 := hG.t t_o2
  have t_o3 := hG.t t_o3
  have hg := hg.tr hG
  refine lv_aload_n hx hb dL_law_513 rfl (lv_at hl 2 rfl) ?_
  refine lv_aload_n hx hb dL_law_514 rfl (lv_at hl 0 rfl) ?_
  refine lv_iload hx hb dL_law_515 (lv_at hl 4 rfl) ?_
  refine lv_iconst (v := 1) hx hb dL_law_517 (by decide) ?_
  refine lv_iadd hx hb dL_law_518 ?_
  obtain ⟨c6, h⟩ := h
  refine va_sld hx hb hX hbl hbA hw.2.2 (ib_in c6) dL_law_519 ?_
  refine lv_aload_n hx hb dL_law_520 rfl (lv_at hl 0 rfl) ?_
  refine lv_iload hx hb dL_law_521 (lv_at hl 4 rfl) ?_
  refine lv_iconst (v := 2) hx hb dL_law_523 (by decide) ?_
  refine lv_iadd hx hb dL_law_524 ?_
  obtain ⟨c7, h⟩ := h
  refine va_sld hx hb hX hbl hbA hw.2.2 (ib_in c7) dL_law_525 ?_
  refine lv_aload_n hx hb dL_law_526 rfl (lv_at hl 0 rfl) ?_
  refine lv_iload hx hb dL_law_527 (lv_at hl 4 rfl) ?_
  refine lv_iconst (v := 3) hx hb dL_law_529 (by decide) ?_
  refine lv_iadd hx hb dL_law_530 ?_
  obtain ⟨c8, h⟩ := h
  refine va_sld hx hb hX hbl hbA hw.2.2 (ib_in c8) dL_law_531 ?_
  refine lv_aload_n hx hb dL_law_532 rfl (lv_at hl 0 rfl) ?_
  refine lv_iload hx hb dL_law_533 (lv_at hl 4 rfl) ?_
  refine lv_iconst (v := 4) hx hb dL_law_535 (by decide) ?_
  refine lv_iadd hx hb dL_law_536 ?_
  obtain ⟨c9, h⟩ := h
  refine va_sld hx hb hX hbl hbA hw.2.2 (ib_in c9) dL_law_537 ?_
  obtain ⟨q10, h_q10, h⟩ := h
  refine z_VI E F hw [.int (xs (Int32.toNatClampNeg (x4 + (1 : Int32)))), .int (xs (Int32.toNatClampNeg (x4 + (2 : Int32)))), .int (xs (Int32.toNatClampNeg (x4 + (3 : Int32)))), .int (xs (Int32.toNatClampNeg (x4 + (4 : Int32))))] (k_X11_may l D cy kc o2 (xs (Int32.toNatClampNeg (x4 + (1 : Int32)))) (xs (Int32.toNatClampNeg (x4 + (2 : Int32)))) (xs (Int32.toNatClampNeg (x4 + (3 : Int32)))) (xs (Int32.toNatClampNeg (x4 + (4 : Int32)))) q5.2 h_q10 t_o2) t_o2 cf11 mk_X11_may vk_X11_may ml_L_108 ⟨by decide, by decide⟩ rfl hl.1 rfl (Nat.le_of_ble_eq_true rfl) dL_law_538 ⟨(by first | omega | (simp only [rmK, room_1]; omega)), (by first | omega | (simp only [rmK, room_1]; omega))⟩ (fun H locs hw hG => ?_)
  have t_o1 := hG.t t_o1
  have t_o2 := hG.t t_o2
  have t_o3 := hG.t t_o3
  have hg := hg.tr hG
  refine lv_icmp_eq (tgt := 2580) hx hb dL_law_541 (by decide) (fun c11 => ?_) (fun c11 => ?_)
  · replace h := h.1 c11
    exact W.widen (by first | omega | (simp only [rmK, room_1]; omega)) (by first | omega | (simp only [rmK, room_1]; omega)) (kk q10.2 _ _ _ h hw t_o1 t_o2 t_o3 (lv_sub hl [0, 1, 2, 3, 4] rfl))
  · replace h := h.2 c11
    exact h.elim
def gl_5 (L : Nat) (xs : Nat → Int32) (o1 o2 o3 : Nat) (x4 : Int32) (S : PS) (K : PS → Prop) : Prop :=
  (ib (x4 + (1 : Int32)) L = true) ∧ ((ib (x4 + (2 : Int32)) L = true) ∧ ((ib (x4 + (3 : Int32)) L = true) ∧ ((ib (x4 + (4 : Int32)) L = true) ∧ ((((xs (Int32.toNatClampNeg (x4 + (4 : Int32)))) = (0 : Int32) → (∃ q6, (f_X10_chooses o1 (xs (Int32.toNatClampNeg (x4 + (1 : Int32)))) (xs (Int32.toNatClampNeg (x4 + (2 : Int32)))) (xs (Int32.toNatClampNeg (x4 + (3 : Int32)))) (0 : Int32) S) = some q6 ∧ ((ib (x4 + (1 : Int32)) L = true) ∧ ((ib (x4 + (2 : Int32)) L = true) ∧ ((ib (x4 + (3 : Int32)) L = true) ∧ ((ib (x4 + (4 : Int32)) L = true) ∧ ((((xs (Int32.toNatClampNeg (x4 + (4 : Int32)))) = (0 : Int32) → (∃ q12, (f_X11_chooses o2 (xs (Int32.toNatClampNeg (x4 + (1 : Int32)))) (xs (Int32.toNatClampNeg (x4 + (2 : Int32)))) (xs (Int32.toNatClampNeg (x4 + (3 : Int32)))) (0 : Int32) q6.2) = some q12 ∧ (((q6.1 = q12.1 → (K q12.2)) ∧ (¬ q6.1 = q12.1 → (False)))))) ∧ (¬ (xs (Int32.toNatClampNeg (x4 + (4 : Int32)))) = (0 : Int32) → (∃ q14, (f_X11_chooses o2 (xs (Int32.toNatClampNeg (x4 + (1 : Int32)))) (xs (Int32.toNatClampNeg (x4 + (2 : Int32)))) (xs (Int32.toNatClampNeg (x4 + (3 : Int32)))) (1 : Int32) q6.2) = some q14 ∧ (((q6.1 = q14.1 → (K q14.2)) ∧ (¬ q6.1 = q14.1 → (False)))))))))))))) ∧ (¬ (xs (Int32.toNatClampNeg (x4 + (4 : Int32)))) = (0 : Int32) → (∃ q16, (f_X10_chooses o1 (xs (Int32.toNatClampNeg (x4 + (1 : Int32)))) (xs (Int32.toNatClampNeg (x4 + (2 : Int32)))) (xs (Int32.toNatClampNeg (x4 + (3 : Int32)))) (1 : Int32) S) = some q16 ∧ ((ib (x4 + (1 : Int32)) L = true) ∧ ((ib (x4 + (2 : Int32)) L = true) ∧ ((ib (x4 + (3 : Int32)) L = true) ∧ ((ib (x4 + (4 : Int32)) L = true) ∧ ((((xs (Int32.toNatClampNeg (x4 + (4 : Int32)))) = (0 : Int32) → (∃ q22, (f_X11_chooses o2 (xs (Int32.toNatClampNeg (x4 + (1 : Int32)))) (xs (Int32.toNatClampNeg (x4 + (2 : Int32)))) (xs (Int32.toNatClampNeg (x4 + (3 : Int32)))) (0 : Int32) q16.2) = some q22 ∧ (((q16.1 = q22.1 → (K q22.2)) ∧ (¬ q16.1 = q22.1 → (False)))))) ∧ (¬ (xs (Int32.toNatClampNeg (x4 + (4 : Int32)))) = (0 : Int32) → (∃ q24, (f_X11_chooses o2 (xs (Int32.toNatClampNeg (x4 + (1 : Int32)))) (xs (Int32.toNatClampNeg (x4 + (2 : Int32)))) (xs (Int32.toNatClampNeg (x4 + (3 : Int32)))) (1 : Int32) q16.2) = some q24 ∧ (((q16.1 = q24.1 → (K q24.2)) ∧ (¬ q16.1 = q24.1 → (False)))))))))))))))))))
set_option maxHeartbeats 4000000 in
theorem lc_5 {p : Program} {l : Launch} {e : Env} {s : State} {m : MethodId} {args : Array Value} {below : List Frame} {meth : Method} {c : Code} {H : Heap} {locs : List Loc} {ls : Array Slot} {Q : State → Prop} {D : va_G} {cy : Nat → ClassId} {kc : Nat → Nat} {A : Nat → Prop} {b L : Nat} {xs : Nat → Int32} {c0 s0 : Nat} (hst : l.stackTraces = false) (E : CallFix p m c cL_law 8 s args LW RL) (F : Fx D cy kc A s) (hX : va_X b L xs s s.heap) (hbl : b < s.heap.size) (hbA : ¬ A b) (o1 o2 o3 : Nat) (x4 : Int32) (S : PS) {K : PS → Prop} (h : gl_5 L xs o1 o2 o3 x4 S K) (hc : c0 + 30 ≤ 601024) (hs : s0 + 9152 ≤ 7293034) (hw : Wd D cy A s H locs S) (t_o1 : tD S o1 10) (t_o2 : tD S o2 11) (t_o3 : tD S o3 14) (hl : lv_has ls 8 [(0, .ref b), (1, .ref o1), (2, .ref o2), (3, .ref o3), (4, .int x4)])
    (kk : ∀ (S1 : PS) (H : Heap) (locs : List Loc) (ls : Array Slot), K S1 → Wd D cy A s H locs S1 → tD S1 o1 10 → tD S1 o2 11 → tD S1 o3 14 → lv_has ls 8 [(0, .ref b), (1, .ref o1), (2, .ref o2), (3, .ref o3), (4, .int x4)] → W p l e room_1 s m args below meth c H locs (c0 + 30) (s0 + 9152) Q (F0 m 2580 ls [])) : W p l e room_1 s m args below meth c H locs c0 s0 Q (F0 m 546 ls []) := by
  have hx := E.1
  have hb := E.2.1
  have hg : Gr S S := Gr.rf
  rw [gl_5] at h
  refine lv_aload_n hx hb dL_law_546 rfl (lv_at hl 1 rfl) ?_
  refine lv_aload_n hx hb dL_law_547 rfl (lv_at hl 0 rfl) ?_
  refine lv_iload hx hb dL_law_548 (lv_at hl 4 rfl) ?_
  refine lv_iconst (v := 1) hx hb dL_law_550 (by decide) ?_
  refine lv_iadd hx hb dL_law_551 ?_
  obtain ⟨c1, h⟩ := h
  refine va_sld hx hb hX hbl hbA hw.2.2 (ib_in c1) dL_law_552 ?_
  refine lv_aload_n hx hb dL_law_553 rfl (lv_at hl 0 rfl) ?_
  refine lv_iload hx hb dL_law_554 (lv_at hl 4 rfl) ?_
  refine lv_iconst (v := 2) hx hb dL_law_556 (by decide) ?_
  refine lv_iadd hx hb dL_law_557 ?_
  obtain ⟨c2, h⟩ := h
  refine va_sld hx hb hX hbl hbA hw.2.2 (ib_in c2) dL_law_558 ?_
  refine lv_aload_n hx hb dL_law_559 rfl (lv_at hl 0 rfl) ?_
  refine lv_iload hx hb dL_law_560 (lv_at hl 4 rfl) ?_
  refine lv_iconst (v := 3) hx hb dL_law_562 (by decide) ?_
  refine lv_iadd hx hb dL_law_563 ?_
  obtain ⟨c3, h⟩ := h
  refine va_sld hx hb hX hbl hbA hw.2.2 (ib_in c3) dL_law_564 ?_
  refine lv_aload_n hx hb dL_law_565 rfl (lv_at hl 0 rfl) ?_
  refine lv_iload hx hb dL_law_566 (lv_at hl 4 rfl) ?_
  refine lv_iconst (v := 4) hx hb dL_law_568 (by decide) ?_
  refine lv_iadd hx hb dL_law_569 ?_
  obtain ⟨c4, h⟩ := h
  refine va_sld hx hb hX hbl hbA hw.2.2 (ib_in c4) dL_law_570 ?_
  refine lv_if_eq (tgt := 578) hx hb dL_law_571 (by decide) (fun c5 => ?_) (fun c5 => ?_)
  · replace h := h.1 c5
    refine lv_iconst (v := 0) hx hb dL_law_578 (by decide) ?_
    obtain ⟨q6, h_q6, h⟩ := h
    refine z_VI E F hw [.int (xs (Int32.toNatClampNeg (x4 + (1 : Int32)))), .int (xs (Int32.toNatClampNeg (x4 + (2 : Int32)))), .int (xs (Int32.toNatClampNeg (x4 + (3 : Int32)))), .int (0 : Int32)] (k_X10_chooses l D cy kc o1 (xs (Int32.toNatClampNeg (x4 + (1 : Int32)))) (xs (Int32.toNatClampNeg (x4 + (2 : Int32)))) (xs (Int32.toNatClampNeg (x4 + (3 : Int32)))) (0 : Int32) S h_q6 t_o1) t_o1 cf10 mk_X10_chooses vk_X10_chooses ml_L_109 ⟨by decide, by decide⟩ rfl hl.1 rfl (Nat.le_of_ble_eq_true rfl) dL_law_579 ⟨(by first | omega | (simp only [rmK, room_1]; omega)), (by first | omega | (simp only [rmK, room_1]; omega))⟩ (fun H locs hw hG => ?_)
    have t_o1 := hG.t t_o1
    have t_o2 := hG.t t_o2
    have t_o3 := hG.t t_o3
    have hg := hg.tr hG
    refine lv_aload_n hx hb dL_law_582 rfl (lv_at hl 2 rfl) ?_
    refine lv_aload_n hx hb dL_law_583 rfl (lv_at hl 0 rfl) ?_
    refine lv_iload hx hb dL_law_584 (lv_at hl 4 rfl) ?_
    refine lv_iconst (v := 1) hx hb dL_law_586 (by decide) ?_
    refine lv_iadd hx hb dL_law_587 ?_
    obtain ⟨c7, h⟩ := h
    refine va_sld hx hb hX hbl hbA hw.2.2 (ib_in c7) dL_law_588 ?_
    refine lv_aload_n hx hb dL_law_589 rfl (lv_at hl 0 rfl) ?_
    refine lv_iload hx hb dL_law_590 (lv_at hl 4 rfl) ?_
    refine lv_iconst (v := 2) hx hb dL_law_592 (by decide) ?_
    refine lv_iadd hx hb dL_law_593 ?_
    obtain ⟨c8, h⟩ := h
    refine va_sld hx hb hX hbl hbA hw.2.2 (ib_in c8) dL_law_594 ?_
    refine lv_aload_n hx hb dL_law_595 rfl (lv_at hl 0 rfl) ?_
    refine lv_iload hx hb dL_law_596 (lv_at hl 4 rfl) ?_
    refine lv_iconst (v := 3) hx hb dL_law_598 (by decide) ?_
    refine lv_iadd hx hb dL_law_599 ?_
    obtain ⟨c9, h⟩ := h
    refine va_sld hx hb hX hbl hbA hw.2.2 (ib_in c9) dL_law_600 ?_
    refine lv_aload_n hx hb dL_law_601 rfl (lv_at hl 0 rfl) ?_
    refine lv_iload hx hb dL_law_602 (lv_at hl 4 rfl) ?_
    refine lv_iconst (v := 4) hx hb dL_law_604 (by decide) ?_
    refine lv_iadd hx hb dL_law_605 ?_
    obtain ⟨c10, h⟩ := h
    refine va_sld hx hb hX hbl hbA hw.2.2 (ib_in c10) dL_law_606 ?_
    refine lv_if_eq (tgt := 614) hx hb dL_law_607 (by decide) (fun c11 => ?_) (fun c11 => ?_)
    · replace h := h.1 c11
      refine lv_iconst (v := 0) hx hb dL_law_614 (by decide) ?_
      obtain ⟨q12, h_q12, h⟩ := h
      refine z_VI E F hw [.int (xs (Int32.toNatClampNeg (x4 + (1 : Int32)))), .int (xs (Int32.toNatClampNeg (x4 + (2 : Int32)))), .int (xs (Int32.toNatClampNeg (x4 + (3 : Int32)))), .int (0 : Int32)] (k_X11_chooses l D cy kc o2 (xs (Int32.toNatClampNeg (x4 + (1 : Int32)))) (xs (Int32.toNatClampNeg (x4 + (2 : Int32)))) (xs (Int32.toNatClampNeg (x4 + (3 : Int32)))) (0 : Int32) q6.2 h_q12 t_o2) t_o2 cf11 mk_X11_chooses vk_X11_chooses ml_L_113 ⟨by decide, by decide⟩ rfl hl.1 rfl (Nat.le_of_ble_eq_true rfl) dL_law_615 ⟨(by first | omega | (simp only [rmK, room_1]; omega)), (by first | omega | (simp only [rmK, room_1]; omega))⟩ (fun H locs hw hG => ?_)
      have t_o1 := hG.t t_o1
      have t_o2 := hG.t t_o2
      have t_o3 := hG.t t_o3
      have hg := hg.tr hG
      refine lv_icmp_eq (tgt := 2580) hx hb dL_law_618 (by decide) (fun c13 => ?_) (fun c13 => ?_)
      · replace h := h.1 c13
        exact W.widen (by first | omega | (simp only [rmK, room_1]; omega)) (by first | omega | (simp only [rmK, room_1]; omega)) (kk q12.2 _ _ _ h hw t_o1 t_o2 t_o3 (lv_sub hl [0, 1, 2, 3, 4] rfl))
      · replace h := h.2 c13
        exact h.elim
    · replace h := h.2 c11
      refine lv_iconst (v := 1) hx hb dL_law_610 (by decide) ?_
      refine lv_goto (tgt := 615) hx hb dL_law_611 (by decide) ?_
      obtain ⟨q14, h_q14, h⟩ := h
      refine z_VI E F hw [.int (xs (Int32.toNatClampNeg (x4 + (1 : Int32)))), .int (xs (Int32.toNatClampNeg (x4 + (2 : Int32)))), .int (xs (Int32.toNatClampNeg (x4 + (3 : Int32)))), .int (1 : Int32)] (k_X11_chooses l D cy kc o2 (xs (Int32.toNatClampNeg (x4 + (1 : Int32)))) (xs (Int32.toNatClampNeg (x4 + (2 : Int32)))) (xs (Int32.toNatClampNeg (x4 + (3 : Int32)))) (1 : Int32) q6.2 h_q14 t_o2) t_o2 cf11 mk_X11_chooses vk_X11_chooses ml_L_113 ⟨by decide, by decide⟩ rfl hl.1 rfl (Nat.le_of_ble_eq_true rfl) dL_law_615 ⟨(by first | omega | (simp only [rmK, room_1]; omega)), (by first | omega | (simp only [rmK, room_1]; omega))⟩ (fun H locs hw hG => ?_)
      have t_o1 := hG.t t_o1
      have t_o2 := hG.t t_o2
      have t_o3 := hG.t t_o3
      have hg := hg.tr hG
      refine lv_icmp_eq (tgt := 2580) hx hb dL_law_618 (by decide) (fun c15 => ?_) (fun c15 => ?_)
      · replace h := h.1 c15
        exact W.widen (by first | omega | (simp only [rmK, room_1]; omega)) (by first | omega | (simp only [rmK, room_1]; omega)) (kk q14.2 _ _ _ h hw t_o1 t_o2 t_o3 (lv_sub hl [0, 1, 2, 3, 4] rfl))
      · replace h := h.2 c15
        exact h.elim
  · replace h := h.2 c5
    refine lv_iconst (v := 1) hx hb dL_law_574 (by decide) ?_
    refine lv_goto (tgt := 579) hx hb dL_law_575 (by decide) ?_
    obtain ⟨q16, h_q16, h⟩ := h
    refine z_VI E F hw [.int (xs (Int32.toNatClampNeg (x4 + (1 : Int32)))), .int (xs (Int32.toNatClampNeg (x4 + (2 : Int32)))), .int (xs (Int32.toNatClampNeg (x4 + (3 : Int32)))), .int (1 : Int32)] (k_X10_chooses l D cy kc o1 (xs (Int32.toNatClampNeg (x4 + (1 : Int32)))) (xs (Int32.toNatClampNeg (x4 + (2 : Int32)))) (xs (Int32.toNatClampNeg (x4 + (3 : Int32)))) (1 : Int32) S h_q16 t_o1) t_o1 cf10 mk_X10_chooses vk_X10_chooses ml_L_109 ⟨by decide, by decide⟩ rfl hl.1 rfl (Nat.le_of_ble_eq_true rfl) dL_law_579 ⟨(by first | omega | (simp only [rmK, room_1]; omega)), (by first | omega | (simp only [rmK, room_1]; omega))⟩ (fun H locs hw hG => ?_)
    have t_o1 := hG.t t_o1
    have t_o2 := hG.t t_o2
    have t_o3 := hG.t t_o3
    have hg := hg.tr hG
    refine lv_aload_n hx hb dL_law_582 rfl (lv_at hl 2 rfl) ?_
    refine lv_aload_n hx hb dL_law_583 rfl (lv_at hl 0 rfl) ?_
    refine lv_iload hx hb dL_law_584 (lv_at hl 4 rfl) ?_
    refine lv_iconst (v := 1) hx hb dL_law_586 (by decide) ?_
    refine lv_iadd hx hb dL_law_587 ?_
    obtain ⟨c17, h⟩ := h
    refine va_sld hx hb hX hbl hbA hw.2.2 (ib_in c17) dL_law_588 ?_
    refine lv_aload_n hx hb dL_law_589 rfl (lv_at hl 0 rfl) ?_
    refine lv_iload hx hb dL_law_590 (lv_at hl 4 rfl) ?_
    refine lv_iconst (v := 2) hx hb dL_law_592 (by decide) ?_
    refine lv_iadd hx hb dL_law_593 ?_
    obtain ⟨c18, h⟩ := h
    refine va_sld hx hb hX hbl hbA hw.2.2 (ib_in c18) dL_law_594 ?_
    refine lv_aload_n hx hb dL_law_595 rfl (lv_at hl 0 rfl) ?_
    refine lv_iload hx hb dL_law_596 (lv_at hl 4 rfl) ?_
    refine lv_iconst (v := 3) hx hb dL_law_598 (by decide) ?_
    refine lv_iadd hx hb dL_law_599 ?_
    obtain ⟨c19, h⟩ := h
    refine va_sld hx hb hX hbl hbA hw.2.2 (ib_in c19) dL_law_600 ?_
    refine lv_aload_n hx hb dL_law_601 rfl (lv_at hl 0 rfl) ?_
    refine lv_iload hx hb dL_law_602 (lv_at hl 4 rfl) ?_
    refine lv_iconst (v := 4) hx hb dL_law_604 (by decide) ?_
    refine lv_iadd hx hb dL_law_605 ?_
    obtain ⟨c20, h⟩ := h
    refine va_sld hx hb hX hbl hbA hw.2.2 (ib_in c20) dL_law_606 ?_
    refine lv_if_eq (tgt := 614) hx hb dL_law_607 (by decide) (fun c21 => ?_) (fun c21 => ?_)
    · replace h := h.1 c21
      refine lv_iconst (v := 0) hx hb dL_law_614 (by decide) ?_
      obtain ⟨q22, h_q22, h⟩ := h
      refine z_VI E F hw [.int (xs (Int32.toNatClampNeg (x4 + (1 : Int32)))), .int (xs (Int32.toNatClampNeg (x4 + (2 : Int32)))), .int (xs (Int32.toNatClampNeg (x4 + (3 : Int32)))), .int (0 : Int32)] (k_X11_chooses l D cy kc o2 (xs (Int32.toNatClampNeg (x4 + (1 : Int32)))) (xs (Int32.toNatClampNeg (x4 + (2 : Int32)))) (xs (Int32.toNatClampNeg (x4 + (3 : Int32)))) (0 : Int32) q16.2 h_q22 t_o2) t_o2 cf11 mk_X11_chooses vk_X11_chooses ml_L_113 ⟨by decide, by decide⟩ rfl hl.1 rfl (Nat.le_of_ble_eq_true rfl) dL_law_615 ⟨(by first | omega | (simp only [rmK, room_1]; omega)), (by first | omega | (simp only [rmK, room_1]; omega))⟩ (fun H locs hw hG => ?_)
      have t_o1 := hG.t t_o1
      have t_o2 := hG.t t_o2
      have t_o3 := hG.t t_o3
      have hg := hg.tr hG
      refine lv_icmp_eq (tgt := 2580) hx hb dL_law_618 (by decide) (fun c23 => ?_) (fun c23 => ?_)
      · replace h := h.1 c23
        exact W.widen (by first | omega | (simp only [rmK, room_1]; omega)) (by first | omega | (simp only [rmK, room_1]; omega)) (kk q22.2 _ _ _ h hw t_o1 t_o2 t_o3 (lv_sub hl [0, 1, 2, 3, 4] rfl))
      · replace h := h.2 c23
        exact h.elim
    · replace h := h.2 c21
      refine lv_iconst (v := 1) hx hb dL_law_610 (by decide) ?_
      refine lv_goto (tgt := 615) hx hb dL_law_611 (by decide) ?_
      obtain ⟨q24, h_q24, h⟩ := h
      refine z_VI E F hw [.int (xs (Int32.toNatClampNeg (x4 + (1 : Int32)))), .int (xs (Int32.toNatClampNeg (x4 + (2 : Int32)))), .int (xs (Int32.toNatClampNeg (x4 + (3 : Int32)))), .int (1 : Int32)] (k_X11_chooses l D cy kc o2 (xs (Int32.toNatClampNeg (x4 + (1 : Int32)))) (xs (Int32.toNatClampNeg (x4 + (2 : Int32)))) (xs (Int32.toNatClampNeg (x4 + (3 : Int32)))) (1 : Int32) q16.2 h_q24 t_o2) t_o2 cf11 mk_X11_chooses vk_X11_chooses ml_L_113 ⟨by decide, by decide⟩ rfl hl.1 rfl (Nat.le_of_ble_eq_true rfl) dL_law_615 ⟨(by first | omega | (simp only [rmK, room_1]; omega)), (by first | omega | (simp only [rmK, room_1]; omega))⟩ (fun H locs hw hG => ?_)
      have t_o1 := hG.t t_o1
      have t_o2 := hG.t t_o2
      have t_o3 := hG.t t_o3
      have hg := hg.tr hG
      refine lv_icmp_eq (tgt := 2580) hx hb dL_law_618 (by decide) (fun c25 => ?_) (fun c25 => ?_)
      · replace h := h.1 c25
        exact W.widen (by first | omega | (simp only [rmK, room_1]; omega)) (by first | omega | (simp only [rmK, room_1]; omega)) (kk q24.2 _ _ _ h hw t_o1 t_o2 t_o3 (lv_sub hl [0, 1, 2, 3, 4] rfl))
      · replace h := h.2 c25
        exact h.elim
def gl_6 (L : Nat) (xs : Nat → Int32) (o1 o2 o3 : Nat) (x4 : Int32) (S : PS) (K : PS → Prop) : Prop :=
  (ib (x4 + (1 : Int32)) L = true) ∧ ((ib (x4 + (2 : Int32)) L = true) ∧ ((ib (x4 + (3 : Int32)) L = true) ∧ ((ib (x4 + (4 : Int32)) L = true) ∧ (g_L_value o1 (xs (Int32.toNatClampNeg (x4 + (1 : Int32)))) (xs (Int32.toNatClampNeg (x4 + (2 : Int32)))) (xs (Int32.toNatClampNeg (x4 + (3 : Int32)))) (xs (Int32.toNatClampNeg (x4 + (4 : Int32)))) o3 S (fun (r6 : Int32) (S5 : PS) => ((ib (x4 + (1 : Int32)) L = true) ∧ ((ib (x4 + (2 : Int32)) L = true) ∧ ((ib (x4 + (3 : Int32)) L = true) ∧ ((ib (x4 + (4 : Int32)) L = true) ∧ (∃ q11, (f_X11_value o2 (xs (Int32.toNatClampNeg (x4 + (1 : Int32)))) (xs (Int32.toNatClampNeg (x4 + (2 : Int32)))) (xs (Int32.toNatClampNeg (x4 + (3 : Int32)))) (xs (Int32.toNatClampNeg (x4 + (4 : Int32)))) S5) = some q11 ∧ (∃ q12, (f_X11_thrown o2 q11.2) = some q12 ∧ (((q12.1 = r6 → (((r6 = (0 : Int32) → ((ib (0 : Int32) (sN q12.2 o3) = true) ∧ ((((lg_cmp (sJ q12.2 o3 (Int32.toNatClampNeg (0 : Int32))) q11.1) = (0 : Int32) → (K q12.2)) ∧ (¬ (lg_cmp (sJ q12.2 o3 (Int32.toNatClampNeg (0 : Int32))) q11.1) = (0 : Int32) → (False)))))) ∧ (¬ r6 = (0 : Int32) → (K q12.2))))) ∧ (¬ q12.1 = r6 → (False)))))))))))))))
set_option maxHeartbeats 4000000 in
theorem lc_6 {p : Program} {l : Launch} {e : Env} {s : State} {m : MethodId} {args : Array Value} {below : List Frame} {meth : Method} {c : Code} {H : Heap} {locs : List Loc} {ls : Array Slot} {Q : State → Prop} {D : va_G} {cy : Nat → ClassId} {kc : Nat → Nat} {A : Nat → Prop} {b L : Nat} {xs : Nat → Int32} {c0 s0 : Nat} (hst : l.stackTraces = false) (E : CallFix p m c cL_law 8 s args LW RL) (F : Fx D cy kc A s) (hX : va_X b L xs s s.heap) (hbl : b < s.heap.size) (hbA : ¬ A b) (o1 o2 o3 : Nat) (x4 : Int32) (S : PS) {K : PS → Prop} (h : gl_6 L xs o1 o2 o3 x4 S K) (hc : c0 + 30 ≤ 601024) (hs : s0 + 9152 ≤ 7293034) (hw : Wd D cy A s H locs S) (t_o1 : tD S o1 10) (t_o2 : tD S o2 11) (t_o3 : tD S o3 14) (hl : lv_has ls 8 [(0, .ref b), (1, .ref o1), (2, .ref o2), (3, .ref o3), (4, .int x4)])
    (kk : ∀ (S1 : PS) (H : Heap) (locs : List Loc) (ls : Array Slot), K S1 → Wd D cy A s H locs S1 → tD S1 o1 10 → tD S1 o2 11 → tD S1 o3 14 → lv_has ls 8 [(0, .ref b), (1, .ref o1), (2, .ref o2), (3, .ref o3), (4, .int x4)] → W p l e room_1 s m args below meth c H locs (c0 + 30) (s0 + 9152) Q (F0 m 2580 ls [])) : W p l e room_1 s m args below meth c H locs c0 s0 Q (F0 m 623 ls []) := by
  have hx := E.1
  have hb := E.2.1
  have hg : Gr S S := Gr.rf
  rw [gl_6] at h
  refine lv_aload_n hx hb dL_law_623 rfl (lv_at hl 1 rfl) ?_
  refine lv_aload_n hx hb dL_law_624 rfl (lv_at hl 0 rfl) ?_
  refine lv_iload hx hb dL_law_625 (lv_at hl 4 rfl) ?_
  refine lv_iconst (v := 1) hx hb dL_law_627 (by decide) ?_
  refine lv_iadd hx hb dL_law_628 ?_
  obtain ⟨c1, h⟩ := h
  refine va_sld hx hb hX hbl hbA hw.2.2 (ib_in c1) dL_law_629 ?_
  refine lv_aload_n hx hb dL_law_630 rfl (lv_at hl 0 rfl) ?_
  refine lv_iload hx hb dL_law_631 (lv_at hl 4 rfl) ?_
  refine lv_iconst (v := 2) hx hb dL_law_633 (by decide) ?_
  refine lv_iadd hx hb dL_law_634 ?_
  obtain ⟨c2, h⟩ := h
  refine va_sld hx hb hX hbl hbA hw.2.2 (ib_in c2) dL_law_635 ?_
  refine lv_aload_n hx hb dL_law_636 rfl (lv_at hl 0 rfl) ?_
  refine lv_iload hx hb dL_law_637 (lv_at hl 4 rfl) ?_
  refine lv_iconst (v := 3) hx hb dL_law_639 (by decide) ?_
  refine lv_iadd hx hb dL_law_640 ?_
  obtain ⟨c3, h⟩ := h
  refine va_sld hx hb hX hbl hbA hw.2.2 (ib_in c3) dL_law_641 ?_
  refine lv_aload_n hx hb dL_law_642 rfl (lv_at hl 0 rfl) ?_
  refine lv_iload hx hb dL_law_643 (lv_at hl 4 rfl) ?_
  refine lv_iconst (v := 4) hx hb dL_law_645 (by decide) ?_
  refine lv_iadd hx hb dL_law_646 ?_
  obtain ⟨c4, h⟩ := h
  refine va_sld hx hb hX hbl hbA hw.2.2 (ib_in c4) dL_law_647 ?_
  refine lv_aload_n hx hb dL_law_648 rfl (lv_at hl 3 rfl) ?_
  refine l_SI E F hw [.ref o1, .int (xs (Int32.toNatClampNeg (x4 + (1 : Int32)))), .int (xs (Int32.toNatClampNeg (x4 + (2 : Int32)))), .int (xs (Int32.toNatClampNeg (x4 + (3 : Int32)))), .int (xs (Int32.toNatClampNeg (x4 + (4 : Int32)))), .ref o3] (k_L_value l hst D cy kc o1 (xs (Int32.toNatClampNeg (x4 + (1 : Int32)))) (xs (Int32.toNatClampNeg (x4 + (2 : Int32)))) (xs (Int32.toNatClampNeg (x4 + (3 : Int32)))) (xs (Int32.toNatClampNeg (x4 + (4 : Int32)))) o3 S h t_o1 t_o3) lk_L_value ml_L_114 ⟨by decide, by decide⟩ rfl hl.1 rfl (Nat.le_of_ble_eq_true rfl) dL_law_649 ⟨(by first | omega | (simp only [rmK, room_1]; omega)), (by first | omega | (simp only [rmK, room_1]; omega))⟩ (fun r6 S5 H locs h hw hG => ?_)
  have t_o1 := hG.t t_o1
  have t_o2 := hG.t t_o2
  have t_o3 := hG.t t_o3
  have hg := hg.tr hG
  refine lv_istore (lv' := [(5, .int r6), (0, .ref b), (1, .ref o1), (2, .ref o2), (3, .ref o3), (4, .int x4)]) hx hb dL_law_652 hl (by decide) rfl (fun ls hl => ?_)
  refine lv_aload_n hx hb dL_law_654 rfl (lv_at hl 3 rfl) ?_
  refine lv_aload_n hx hb dL_law_655 rfl (lv_at hl 1 rfl) ?_
  refine lv_iload hx hb dL_law_656 (lv_at hl 5 rfl) ?_
  refine lv_iconst (v := 1) hx hb dL_law_658 (by decide) ?_
  refine lv_iadd hx hb dL_law_659 ?_
  obtain ⟨c7, h⟩ := h
  refine va_sld hx hb hX hbl hbA hw.2.2 (ib_in c7) dL_law_660 ?_
  refine lv_aload_n hx hb dL_law_661 rfl (lv_at hl 1 rfl) ?_
  refine lv_iload hx hb dL_law_662 (lv_at hl 5 rfl) ?_
  refine lv_iconst (v := 2) hx hb dL_law_664 (by decide) ?_
  refine lv_iadd hx hb dL_law_665 ?_
  obtain ⟨c8, h⟩ := h
  refine va_sld hx hb hX hbl hbA hw.2.2 (ib_in c8) dL_law_666 ?_
  refine lv_aload_n hx hb dL_law_667 rfl (lv_at hl 1 rfl) ?_
  refine lv_iload hx hb dL_law_668 (lv_at hl 5 rfl) ?_
  refine lv_iconst (v := 3) hx hb dL_law_670 (by decide) ?_
  refine lv_iadd hx hb dL_law_671 ?_
  obtain ⟨c9, h⟩ := h
  refine va_sld hx hb hX hbl hbA hw.2.2 (ib_in c9) dL_law_672 ?_
  refine lv_aload_n hx hb dL_law_673 rfl (lv_at hl 1 rfl) ?_
  refine lv_iload hx hb dL_law_674 (lv_at hl 5 rfl) ?_
  refine lv_iconst (v := 4) hx hb dL_law_676 (by decide) ?_
  refine lv_iadd hx hb dL_law_677 ?_
  obtain ⟨c10, h⟩ := h
  refine va_sld hx hb hX hbl hbA hw.2.2 (ib_in c10) dL_law_678 ?_
  obtain ⟨q11, h_q11, h⟩ := h
  refine z_VJ E F hw [.int (xs (Int32.toNatClampNeg (x4 + (1 : Int32)))), .int (xs (Int32.toNatClampNeg (x4 + (2 : Int32)))), .int (xs (Int32.toNatClampNeg (x4 + (3 : Int32)))), .int (xs (Int32.toNatClampNeg (x4 + (4 : Int32))))] (k_X11_value l D cy kc o2 (xs (Int32.toNatClampNeg (x4 + (1 : Int32)))) (xs (Int32.toNatClampNeg (x4 + (2 : Int32)))) (xs (Int32.toNatClampNeg (x4 + (3 : Int32)))) (xs (Int32.toNatClampNeg (x4 + (4 : Int32)))) S5 h_q11 t_o2) t_o2 cf11 mk_X11_value vk_X11_value ml_L_116 ⟨by decide, by decide⟩ rfl hl.1 rfl (Nat.le_of_ble_eq_true rfl) dL_law_679 ⟨(by first | omega | (simp only [rmK, room_1]; omega)), (by first | omega | (simp only [rmK, room_1]; omega))⟩ (fun H locs hw hG => ?_)
  have t_o1 := hG.t t_o1
  have t_o2 := hG.t t_o2
  have t_o3 := hG.t t_o3
  have hg := hg.tr hG
  refine lv_lstore (lv' := [(6, .long q11.1), (5, .int r6), (0, .ref b), (1, .ref o1), (2, .ref o2), (3, .ref o3), (4, .int x4)]) hx hb dL_law_682 hl (by decide) rfl (fun ls hl => ?_)
  refine lv_aload_n hx hb dL_law_684 rfl (lv_at hl 4 rfl) ?_
  obtain ⟨q12, h_q12, h⟩ := h
  refine z_VI E F hw [] (k_X11_thrown l D cy kc o2 q11.2 h_q12 t_o2) t_o2 cf11 mk_X11_thrown vk_X11_thrown ml_L_102 ⟨by decide, by decide⟩ rfl hl.1 rfl (Nat.le_of_ble_eq_true rfl) dL_law_685 ⟨(by first | omega | (simp only [rmK, room_1]; omega)), (by first | omega | (simp only [rmK, room_1]; omega))⟩ (fun H locs hw hG => ?_)
  have t_o1 := hG.t t_o1
  have t_o2 := hG.t t_o2
  have t_o3 := hG.t t_o3
  have hg := hg.tr hG
  refine lv_iload hx hb dL_law_688 (lv_at hl 1 rfl) ?_
  refine lv_icmp_eq (tgt := 695) hx hb dL_law_690 (by decide) (fun c13 => ?_) (fun c13 => ?_)
  · replace h := h.1 c13
    refine lv_iload hx hb dL_law_695 (lv_at hl 1 rfl) ?_
    refine lv_if_ne (tgt := 711) hx hb dL_law_697 (by decide) (fun c14 => ?_) (fun c14 => ?_)
    · replace h := h.2 c14
      refine lv_goto (tgt := 2580) hx hb dL_law_711 (by decide) ?_
      exact W.widen (by first | omega | (simp only [rmK, room_1]; omega)) (by first | omega | (simp only [rmK, room_1]; omega)) (kk q12.2 _ _ _ h hw t_o1 t_o2 t_o3 (lv_sub hl [2, 3, 4, 5, 6] rfl))
    · replace h := h.1 c14
      refine lv_aload_n hx hb dL_law_700 rfl (lv_at hl 5 rfl) ?_
      refine lv_iconst (v := 0) hx hb dL_law_701 (by decide) ?_
      obtain ⟨c15, h⟩ := h
      refine a_j E F hw t_o3 c15 dL_law_702 ?_
      refine lv_lload hx hb dL_law_703 (lv_at hl 0 rfl) ?_
      refine W.lcmp hx hb dL_law_705 ?_
      refine lv_if_eq (tgt := 711) hx hb dL_law_706 (by decide) (fun c16 => ?_) (fun c16 => ?_)
      · replace h := h.1 c16
        refine lv_goto (tgt := 2580) hx hb dL_law_711 (by decide) ?_
        exact W.widen (by first | omega | (simp only [rmK, room_1]; omega)) (by first | omega | (simp only [rmK, room_1]; omega)) (kk q12.2 _ _ _ h hw t_o1 t_o2 t_o3 (lv_sub hl [2, 3, 4, 5, 6] rfl))
      · replace h := h.2 c16
        exact h.elim
  · replace h := h.2 c13
    exact h.elim
def gl_7 (L : Nat) (xs : Nat → Int32) (o1 o2 o3 : Nat) (x4 : Int32) (S : PS) (K : PS → Prop) : Prop :=
  (ib (x4 + (1 : Int32)) L = true) ∧ ((ib (x4 + (2 : Int32)) L = true) ∧ (∃ q3, (f_X10_ask o1 (xs (Int32.toNatClampNeg (x4 + (1 : Int32)))) (xs (Int32.toNatClampNeg (x4 + (2 : Int32)))) S) = some q3 ∧ ((ib (x4 + (1 : Int32)) L = true) ∧ ((ib (x4 + (2 : Int32)) L = true) ∧ (∃ q6, (f_X11_ask o2 (xs (Int32.toNatClampNeg (x4 + (1 : Int32)))) (xs (Int32.toNatClampNeg (x4 + (2 : Int32)))) q3.2) = some q6 ∧ (((q3.1 = q6.1 → (K q6.2)) ∧ (¬ q3.1 = q6.1 → (False)))))))))
set_option maxHeartbeats 4000000 in
theorem lc_7 {p : Program} {l : Launch} {e : Env} {s : State} {m : MethodId} {args : Array Value} {below : List Frame} {meth : Method} {c : Code} {H : Heap} {locs : List Loc} {ls : Array Slot} {Q : State → Prop} {D : va_G} {cy : Nat → ClassId} {kc : Nat → Nat} {A : Nat → Prop} {b L : Nat} {xs : Nat → Int32} {c0 s0 : Nat} (hst : l.stackTraces = false) (E : CallFix p m c cL_law 8 s args LW RL) (F : Fx D cy kc A s) (hX : va_X b L xs s s.heap) (hbl : b < s.heap.size) (hbA : ¬ A b) (o1 o2 o3 : Nat) (x4 : Int32) (S : PS) {K : PS → Prop} (h : gl_7 L xs o1 o2 o3 x4 S K) (hc : c0 + 30 ≤ 601024) (hs : s0 + 9152 ≤ 7293034) (hw : Wd D cy A s H locs S) (t_o1 : tD S o1 10) (t_o2 : tD S o2 11) (t_o3 : tD S o3 14) (hl : lv_has ls 8 [(0, .ref b), (1, .ref o1), (2, .ref o2), (3, .ref o3), (4, .int x4)])
    (kk : ∀ (S1 : PS) (H : Heap) (locs : List Loc) (ls : Array Slot), K S1 → Wd D cy A s H locs S1 → tD S1 o1 10 → tD S1 o2 11 → tD S1 o3 14 → lv_has ls 8 [(0, .ref b), (1, .ref o1), (2, .ref o2), (3, .ref o3), (4, .int x4)] → W p l e room_1 s m args below meth c H locs (c0 + 30) (s0 + 9152) Q (F0 m 2580 ls [])) : W p l e room_1 s m args below meth c H locs c0 s0 Q (F0 m 714 ls []) := by
  have hx := E.1
  have hb := E.2.1
  have hg : Gr S S := Gr.rf
  rw [gl_7] at h
  refine lv_aload_n hx hb dL_law_714 rfl (lv_at hl 1 rfl) ?_
  refine lv_aload_n hx hb dL_law_715 rfl (lv_at hl 0 rfl) ?_
  refine lv_iload hx hb dL_law_716 (lv_at hl 4 rfl) ?_
  refine lv_iconst (v := 1) hx hb dL_law_718 (by decide) ?_
  refine lv_iadd hx hb dL_law_719 ?_
  obtain ⟨c1, h⟩ := h
  refine va_sld hx hb hX hbl hbA hw.2.2 (ib_in c1) dL_law_720 ?_
  refine lv_aload_n hx hb dL_law_721 rfl (lv_at hl 0 rfl) ?_
  refine lv_iload hx hb dL_law_722 (lv_at hl 4 rfl) ?_
  refine lv_iconst (v := 2) hx hb dL_law_724 (by decide) ?_
  refine lv_iadd hx hb dL_law_725 ?_
  obtain ⟨c2, h⟩ := h
  refine va_sld hx hb hX hbl hbA hw.2.2 (ib_in c2) dL_law_726 ?_
  obtain ⟨q3, h_q3, h⟩ := h
  refine z_VI E F hw [.int (xs (Int32.toNatClampNeg (x4 + (1 : Int32)))), .int (xs (Int32.toNatClampNeg (x4 + (2 : Int32))))] (k_X10_ask l D cy kc o1 (xs (Int32.toNatClampNeg (x4 + (1 : Int32)))) (xs (Int32.toNatClampNeg (x4 + (2 : Int32)))) S h_q3 t_o1) t_o1 cf10 mk_X10_ask vk_X10_ask ml_L_117 ⟨by decide, by decide⟩ rfl hl.1 rfl (Nat.le_of_ble_eq_true rfl) dL_law_727 ⟨(by first | omega | (simp only [rmK, room_1]; omega)), (by first | omega | (simp only [rmK, room_1]; omega))⟩ (fun H locs hw hG => ?_)
  have t_o1 := hG.t t_o1
  have t_o2 := hG.t t_o2
  have t_o3 := hG.t t_o3
  have hg := hg.tr hG
  refine lv_aload_n hx hb dL_law_730 rfl (lv_at hl 2 rfl) ?_
  refine lv_aload_n hx hb dL_law_731 rfl (lv_at hl 0 rfl) ?_
  refine lv_iload hx hb dL_law_732 (lv_at hl 4 rfl) ?_
  refine lv_iconst (v := 1) hx hb dL_law_734 (by decide) ?_
  refine lv_iadd hx hb dL_law_735 ?_
  obtain ⟨c4, h⟩ := h
  refine va_sld hx hb hX hbl hbA hw.2.2 (ib_in c4) dL_law_736 ?_
  refine lv_aload_n hx hb dL_law_737 rfl (lv_at hl 0 rfl) ?_
  refine lv_iload hx hb dL_law_738 (lv_at hl 4 rfl) ?_
  refine lv_iconst (v := 2) hx hb dL_law_740 (by decide) ?_
  refine lv_iadd hx hb dL_law_741 ?_
  obtain ⟨c5, h⟩ := h
  refine va_sld hx hb hX hbl hbA hw.2.2 (ib_in c5) dL_law_742 ?_
  obtain ⟨q6, h_q6, h⟩ := h
  refine z_VI E F hw [.int (xs (Int32.toNatClampNeg (x4 + (1 : Int32)))), .int (xs (Int32.toNatClampNeg (x4 + (2 : Int32))))] (k_X11_ask l D cy kc o2 (xs (Int32.toNatClampNeg (x4 + (1 : Int32)))) (xs (Int32.toNatClampNeg (x4 + (2 : Int32)))) q3.2 h_q6 t_o2) t_o2 cf11 mk_X11_ask vk_X11_ask ml_L_121 ⟨by decide, by decide⟩ rfl hl.1 rfl (Nat.le_of_ble_eq_true rfl) dL_law_743 ⟨(by first | omega | (simp only [rmK, room_1]; omega)), (by first | omega | (simp only [rmK, room_1]; omega))⟩ (fun H locs hw hG => ?_)
  have t_o1 := hG.t t_o1
  have t_o2 := hG.t t_o2
  have t_o3 := hG.t t_o3
  have hg := hg.tr hG
  refine lv_icmp_eq (tgt := 2580) hx hb dL_law_746 (by decide) (fun c7 => ?_) (fun c7 => ?_)
  · replace h := h.1 c7
    exact W.widen (by first | omega | (simp only [rmK, room_1]; omega)) (by first | omega | (simp only [rmK, room_1]; omega)) (kk q6.2 _ _ _ h hw t_o1 t_o2 t_o3 (lv_sub hl [0, 1, 2, 3, 4] rfl))
  · replace h := h.2 c7
    exact h.elim
def gl_8 (L : Nat) (xs : Nat → Int32) (o1 o2 o3 : Nat) (x4 : Int32) (S : PS) (K : PS → Prop) : Prop :=
  (ib (x4 + (1 : Int32)) L = true) ∧ ((ib (x4 + (2 : Int32)) L = true) ∧ ((ib (x4 + (3 : Int32)) L = true) ∧ (∃ q4, (f_X10_pledge o1 (xs (Int32.toNatClampNeg (x4 + (1 : Int32)))) (xs (Int32.toNatClampNeg (x4 + (2 : Int32)))) (xs (Int32.toNatClampNeg (x4 + (3 : Int32)))) S) = some q4 ∧ ((ib (x4 + (1 : Int32)) L = true) ∧ ((ib (x4 + (2 : Int32)) L = true) ∧ ((ib (x4 + (3 : Int32)) L = true) ∧ (∃ q8, (f_X11_pledge o2 (xs (Int32.toNatClampNeg (x4 + (1 : Int32)))) (xs (Int32.toNatClampNeg (x4 + (2 : Int32)))) (xs (Int32.toNatClampNeg (x4 + (3 : Int32)))) q4.2) = some q8 ∧ (((q4.1 = q8.1 → (K q8.2)) ∧ (¬ q4.1 = q8.1 → (False)))))))))))
set_option maxHeartbeats 4000000 in
theorem lc_8 {p : Program} {l : Launch} {e : Env} {s : State} {m : MethodId} {args : Array Value} {below : List Frame} {meth : Method} {c : Code} {H : Heap} {locs : List Loc} {ls : Array Slot} {Q : State → Prop} {D : va_G} {cy : Nat → ClassId} {kc : Nat → Nat} {A : Nat → Prop} {b L : Nat} {xs : Nat → Int32} {c0 s0 : Nat} (hst : l.stackTraces = false) (E : CallFix p m c cL_law 8 s args LW RL) (F : Fx D cy kc A s) (hX : va_X b L xs s s.heap) (hbl : b < s.heap.size) (hbA : ¬ A b) (o1 o2 o3 : Nat) (x4 : Int32) (S : PS) {K : PS → Prop} (h : gl_8 L xs o1 o2 o3 x4 S K) (hc : c0 + 30 ≤ 601024) (hs : s0 + 9152 ≤ 7293034) (hw : Wd D cy A s H locs S) (t_o1 : tD S o1 10) (t_o2 : tD S o2 11) (t_o3 : tD S o3 14) (hl : lv_has ls 8 [(0, .ref b), (1, .ref o1), (2, .ref o2), (3, .ref o3), (4, .int x4)])
    (kk : ∀ (S1 : PS) (H : Heap) (locs : List Loc) (ls : Array Slot), K S1 → Wd D cy A s H locs S1 → tD S1 o1 10 → tD S1 o2 11 → tD S1 o3 14 → lv_has ls 8 [(0, .ref b), (1, .ref o1), (2, .ref o2), (3, .ref o3), (4, .int x4)] → W p l e room_1 s m args below meth c H locs (c0 + 30) (s0 + 9152) Q (F0 m 2580 ls [])) : W p l e room_1 s m args below meth c H locs c0 s0 Q (F0 m 751 ls []) := by
  have hx := E.1
  have hb := E.2.1
  have hg : Gr S S := Gr.rf
  rw [gl_8] at h
  refine lv_aload_n hx hb dL_law_751 rfl (lv_at hl 1 rfl) ?_
  refine lv_aload_n hx hb dL_law_752 rfl (lv_at hl 0 rfl) ?_
  refine lv_iload hx hb dL_law_753 (lv_at hl 4 rfl) ?_
  refine lv_iconst (v := 1) hx hb dL_law_755 (by decide) ?_
  refine lv_iadd hx hb dL_law_756 ?_
  obtain ⟨c1, h⟩ := h
  refine va_sld hx hb hX hbl hbA hw.2.2 (ib_in c1) dL_law_757 ?_
  refine lv_aload_n hx hb dL_law_758 rfl (lv_at hl 0 rfl) ?_
  refine lv_iload hx hb dL_law_759 (lv_at hl 4 rfl) ?_
  refine lv_iconst (v := 2) hx hb dL_law_761 (by decide) ?_
  refine lv_iadd hx hb dL_law_762 ?_
  obtain ⟨c2, h⟩ := h
  refine va_sld hx hb hX hbl hbA hw.2.2 (ib_in c2) dL_law_763 ?_
  refine lv_aload_n hx hb dL_law_764 rfl (lv_at hl 0 rfl) ?_
  refine lv_iload hx hb dL_law_765 (lv_at hl 4 rfl) ?_
  refine lv_iconst (v := 3) hx hb dL_law_767 (by decide) ?_
  refine lv_iadd hx hb dL_law_768 ?_
  obtain ⟨c3, h⟩ := h
  refine va_sld hx hb hX hbl hbA hw.2.2 (ib_in c3) dL_law_769 ?_
  obtain ⟨q4, h_q4, h⟩ := h
  refine z_VI E F hw [.int (xs (Int32.toNatClampNeg (x4 + (1 : Int32)))), .int (xs (Int32.toNatClampNeg (x4 + (2 : Int32)))), .int (xs (Int32.toNatClampNeg (x4 + (3 : Int32))))] (k_X10_pledge l D cy kc o1 (xs (Int32.toNatClampNeg (x4 + (1 : Int32)))) (xs (Int32.toNatClampNeg (x4 + (2 : Int32)))) (xs (Int32.toNatClampNeg (x4 + (3 : Int32)))) S h_q4 t_o1) t_o1 cf10 mk_X10_pledge vk_X10_pledge ml_L_122 ⟨by decide, by decide⟩ rfl hl.1 rfl (Nat.le_of_ble_eq_true rfl) dL_law_770 ⟨(by first | omega | (simp only [rmK, room_1]; omega)), (by first | omega | (simp only [rmK, room_1]; omega))⟩ (fun H locs hw hG => ?_)
  have t_o1 := hG.t t_o1
  have t_o2 := hG.t t_o2
  have t_o3 := hG.t t_o3
  have hg := hg.tr hG
  refine lv_aload_n hx hb dL_law_773 rfl (lv_at hl 2 rfl) ?_
  refine lv_aload_n hx hb dL_law_774 rfl (lv_at hl 0 rfl) ?_
  refine lv_iload hx hb dL_law_775 (lv_at hl 4 rfl) ?_
  refine lv_iconst (v := 1) hx hb dL_law_777 (by decide) ?_
  refine lv_iadd hx hb dL_law_778 ?_
  obtain ⟨c5, h⟩ := h
  refine va_sld hx hb hX hbl hbA hw.2.2 (ib_in c5) dL_law_779 ?_
  refine lv_aload_n hx hb dL_law_780 rfl (lv_at hl 0 rfl) ?_
  refine lv_iload hx hb dL_law_781 (lv_at hl 4 rfl) ?_
  refine lv_iconst (v := 2) hx hb dL_law_783 (by decide) ?_
  refine lv_iadd hx hb dL_law_784 ?_
  obtain ⟨c6, h⟩ := h
  refine va_sld hx hb hX hbl hbA hw.2.2 (ib_in c6) dL_law_785 ?_
  refine lv_aload_n hx hb dL_law_786 rfl (lv_at hl 0 rfl) ?_
  refine lv_iload hx hb dL_law_787 (lv_at hl 4 rfl) ?_
  refine lv_iconst (v := 3) hx hb dL_law_789 (by decide) ?_
  refine lv_iadd hx hb dL_law_790 ?_
  obtain ⟨c7, h⟩ := h
  refine va_sld hx hb hX hbl hbA hw.2.2 (ib_in c7) dL_law_791 ?_
  obtain ⟨q8, h_q8, h⟩ := h
  refine z_VI E F hw [.int (xs (Int32.toNatClampNeg (x4 + (1 : Int32)))), .int (xs (Int32.toNatClampNeg (x4 + (2 : Int32)))), .int (xs (Int32.toNatClampNeg (x4 + (3 : Int32))))] (k_X11_pledge l D cy kc o2 (xs (Int32.toNatClampNeg (x4 + (1 : Int32)))) (xs (Int32.toNatClampNeg (x4 + (2 : Int32)))) (xs (Int32.toNatClampNeg (x4 + (3 : Int32)))) q4.2 h_q8 t_o2) t_o2 cf11 mk_X11_pledge vk_X11_pledge ml_L_126 ⟨by decide, by decide⟩ rfl hl.1 rfl (Nat.le_of_ble_eq_true rfl) dL_law_792 ⟨(by first | omega | (simp only [rmK, room_1]; omega)), (by first | omega | (simp only [rmK, room_1]; omega))⟩ (fun H locs hw hG => ?_)
  have t_o1 := hG.t t_o1
  have t_o2 := hG.t t_o2
  have t_o3 := hG.t t_o3
  have hg := hg.tr hG
  refine lv_icmp_eq (tgt := 2580) hx hb dL_law_795 (by decide) (fun c9 => ?_) (fun c9 => ?_)
  · replace h := h.1 c9
    exact W.widen (by first | omega | (simp only [rmK, room_1]; omega)) (by first | omega | (simp only [rmK, room_1]; omega)) (kk q8.2 _ _ _ h hw t_o1 t_o2 t_o3 (lv_sub hl [0, 1, 2, 3, 4] rfl))
  · replace h := h.2 c9
    exact h.elim
def gl_9 (L : Nat) (xs : Nat → Int32) (o1 o2 o3 : Nat) (x4 : Int32) (S : PS) (K : PS → Prop) : Prop :=
  (ib (x4 + (1 : Int32)) L = true) ∧ ((ib (x4 + (2 : Int32)) L = true) ∧ ((((xs (Int32.toNatClampNeg (x4 + (2 : Int32)))) = (0 : Int32) → (∃ q4, (f_X10_stone o1 (xs (Int32.toNatClampNeg (x4 + (1 : Int32)))) (0 : Int32) S) = some q4 ∧ ((ib (x4 + (1 : Int32)) L = true) ∧ ((ib (x4 + (2 : Int32)) L = true) ∧ ((((xs (Int32.toNatClampNeg (x4 + (2 : Int32)))) = (0 : Int32) → (∃ q8, (f_X11_stone o2 (xs (Int32.toNatClampNeg (x4 + (1 : Int32)))) (0 : Int32) q4.2) = some q8 ∧ (((q4.1 = q8.1 → (K q8.2)) ∧ (¬ q4.1 = q8.1 → (False)))))) ∧ (¬ (xs (Int32.toNatClampNeg (x4 + (2 : Int32)))) = (0 : Int32) → (∃ q10, (f_X11_stone o2 (xs (Int32.toNatClampNeg (x4 + (1 : Int32)))) (1 : Int32) q4.2) = some q10 ∧ (((q4.1 = q10.1 → (K q10.2)) ∧ (¬ q4.1 = q10.1 → (False)))))))))))) ∧ (¬ (xs (Int32.toNatClampNeg (x4 + (2 : Int32)))) = (0 : Int32) → (∃ q12, (f_X10_stone o1 (xs (Int32.toNatClampNeg (x4 + (1 : Int32)))) (1 : Int32) S) = some q12 ∧ ((ib (x4 + (1 : Int32)) L = true) ∧ ((ib (x4 + (2 : Int32)) L = true) ∧ ((((xs (Int32.toNatClampNeg (x4 + (2 : Int32)))) = (0 : Int32) → (∃ q16, (f_X11_stone o2 (xs (Int32.toNatClampNeg (x4 + (1 : Int32)))) (0 : Int32) q12.2) = some q16 ∧ (((q12.1 = q16.1 → (K q16.2)) ∧ (¬ q12.1 = q16.1 → (False)))))) ∧ (¬ (xs (Int32.toNatClampNeg (x4 + (2 : Int32)))) = (0 : Int32) → (∃ q18, (f_X11_stone o2 (xs (Int32.toNatClampNeg (x4 + (1 : Int32)))) (1 : Int32) q12.2) = some q18 ∧ (((q12.1 = q18.1 → (K q18.2)) ∧ (¬ q12.1 = q18.1 → (False)))))))))))))))
set_option maxHeartbeats 4000000 in
theorem lc_9 {p : Program} {l : Launch} {e : Env} {s : State} {m : MethodId} {args : Array Value} {below : List Frame} {meth : Method} {c : Code} {H : Heap} {locs : List Loc} {ls : Array Slot} {Q : State → Prop} {D : va_G} {cy : Nat → ClassId} {kc : Nat → Nat} {A : Nat → Prop} {b L : Nat} {xs : Nat → Int32} {c0 s0 : Nat} (hst : l.stackTraces = false) (E : CallFix p m c cL_law 8 s args LW RL) (F : Fx D cy kc A s) (hX : va_X b L xs s s.heap) (hbl : b < s.heap.size) (hbA : ¬ A b) (o1 o2 o3 : Nat) (x4 : Int32) (S : PS) {K : PS → Prop} (h : gl_9 L xs o1 o2 o3 x4 S K) (hc : c0 + 30 ≤ 601024) (hs : s0 + 9152 ≤ 7293034) (hw : Wd D cy A s H locs S) (t_o1 : tD S o1 10) (t_o2 : tD S o2 11) (t_o3 : tD S o3 14) (hl : lv_has ls 8 [(0, .ref b), (1, .ref o1), (2, .ref o2), (3, .ref o3), (4, .int x4)])
    (kk : ∀ (S1 : PS) (H : Heap) (locs : List Loc) (ls : Array Slot), K S1 → Wd D cy A s H locs S1 → tD S1 o1 10 → tD S1 o2 11 → tD S1 o3 14 → lv_has ls 8 [(0, .ref b), (1, .ref o1), (2, .ref o2), (3, .ref o3), (4, .int x4)] → W p l e room_1 s m args below meth c H locs (c0 + 30) (s0 + 9152) Q (F0 m 2580 ls [])) : W p l e room_1 s m args below meth c H locs c0 s0 Q (F0 m 800 ls []) := by
  have hx := E.1
  have hb := E.2.1
  have hg : Gr S S := Gr.rf
  rw [gl_9] at h
  refine lv_aload_n hx hb dL_law_800 rfl (lv_at hl 1 rfl) ?_
  refine lv_aload_n hx hb dL_law_801 rfl (lv_at hl 0 rfl) ?_
  refine lv_iload hx hb dL_law_802 (lv_at hl 4 rfl) ?_
  refine lv_iconst (v := 1) hx hb dL_law_804 (by decide) ?_
  refine lv_iadd hx hb dL_law_805 ?_
  obtain ⟨c1, h⟩ := h
  refine va_sld hx hb hX hbl hbA hw.2.2 (ib_in c1) dL_law_806 ?_
  refine lv_aload_n hx hb dL_law_807 rfl (lv_at hl 0 rfl) ?_
  refine lv_iload hx hb dL_law_808 (lv_at hl 4 rfl) ?_
  refine lv_iconst (v := 2) hx hb dL_law_810 (by decide) ?_
  refine lv_iadd hx hb dL_law_811 ?_
  obtain ⟨c2, h⟩ := h
  refine va_sld hx hb hX hbl hbA hw.2.2 (ib_in c2) dL_law_812 ?_
  refine lv_if_eq (tgt := 820) hx hb dL_law_813 (by decide) (fun c3 => ?_) (fun c3 => ?_)
  · replace h := h.1 c3
    refine lv_iconst (v := 0) hx hb dL_law_820 (by decide) ?_
    obtain ⟨q4, h_q4, h⟩ := h
    refine z_VI E F hw [.int (xs (Int32.toNatClampNeg (x4 + (1 : Int32)))), .int (0 : Int32)] (k_X10_stone l D cy kc o1 (xs (Int32.toNatClampNeg (x4 + (1 : Int32)))) (0 : Int32) S h_q4 t_o1) t_o1 cf10 mk_X10_stone vk_X10_stone ml_L_127 ⟨by decide, by decide⟩ rfl hl.1 rfl (Nat.le_of_ble_eq_true rfl) dL_law_821 ⟨(by first | omega | (simp only [rmK, room_1]; omega)), (by first | omega | (simp only [rmK, room_1]; omega))⟩ (fun H locs hw hG => ?_)
    have t_o1 := hG.t t_o1
    have t_o2 := hG.t t_o2
    have t_o3 := hG.t t_o3
    have hg := hg.tr hG
    refine lv_aload_n hx hb dL_law_824 rfl (lv_at hl 2 rfl) ?_
    refine lv_aload_n hx hb dL_law_825 rfl (lv_at hl 0 rfl) ?_
    refine lv_iload hx hb dL_law_826 (lv_at hl 4 rfl) ?_
    refine lv_iconst (v := 1) hx hb dL_law_828 (by decide) ?_
    refine lv_iadd hx hb dL_law_829 ?_
    obtain ⟨c5, h⟩ := h
    refine va_sld hx hb hX hbl hbA hw.2.2 (ib_in c5) dL_law_830 ?_
    refine lv_aload_n hx hb dL_law_831 rfl (lv_at hl 0 rfl) ?_
    refine lv_iload hx hb dL_law_832 (lv_at hl 4 rfl) ?_
    refine lv_iconst (v := 2) hx hb dL_law_834 (by decide) ?_
    refine lv_iadd hx hb dL_law_835 ?_
    obtain ⟨c6, h⟩ := h
    refine va_sld hx hb hX hbl hbA hw.2.2 (ib_in c6) dL_law_836 ?_
    refine lv_if_eq (tgt := 844) hx hb dL_law_837 (by decide) (fun c7 => ?_) (fun c7 => ?_)
    · replace h := h.1 c7
      refine lv_iconst (v := 0) hx hb dL_law_844 (by decide) ?_
      obtain ⟨q8, h_q8, h⟩ := h
      refine z_VI E F hw [.int (xs (Int32.toNatClampNeg (x4 + (1 : Int32)))), .int (0 : Int32)] (k_X11_stone l D cy kc o2 (xs (Int32.toNatClampNeg (x4 + (1 : Int32)))) (0 : Int32) q4.2 h_q8 t_o2) t_o2 cf11 mk_X11_stone vk_X11_stone ml_L_131 ⟨by decide, by decide⟩ rfl hl.1 rfl (Nat.le_of_ble_eq_true rfl) dL_law_845 ⟨(by first | omega | (simp only [rmK, room_1]; omega)), (by first | omega | (simp only [rmK, room_1]; omega))⟩ (fun H locs hw hG => ?_)
      have t_o1 := hG.t t_o1
      have t_o2 := hG.t t_o2
      have t_o3 := hG.t t_o3
      have hg := hg.tr hG
      refine lv_icmp_eq (tgt := 2580) hx hb dL_law_848 (by decide) (fun c9 => ?_) (fun c9 => ?_)
      · replace h := h.1 c9
        exact W.widen (by first | omega | (simp only [rmK, room_1]; omega)) (by first | omega | (simp only [rmK, room_1]; omega)) (kk q8.2 _ _ _ h hw t_o1 t_o2 t_o3 (lv_sub hl [0, 1, 2, 3, 4] rfl))
      · replace h := h.2 c9
        exact h.elim
    · replace h := h.2 c7
      refine lv_iconst (v := 1) hx hb dL_law_840 (by decide) ?_
      refine lv_goto (tgt := 845) hx hb dL_law_841 (by decide) ?_
      obtain ⟨q10, h_q10, h⟩ := h
      refine z_VI E F hw [.int (xs (Int32.toNatClampNeg (x4 + (1 : Int32)))), .int (1 : Int32)] (k_X11_stone l D cy kc o2 (xs (Int32.toNatClampNeg (x4 + (1 : Int32)))) (1 : Int32) q4.2 h_q10 t_o2) t_o2 cf11 mk_X11_stone vk_X11_stone ml_L_131 ⟨by decide, by decide⟩ rfl hl.1 rfl (Nat.le_of_ble_eq_true rfl) dL_law_845 ⟨(by first | omega | (simp only [rmK, room_1]; omega)), (by first | omega | (simp only [rmK, room_1]; omega))⟩ (fun H locs hw hG => ?_)
      have t_o1 := hG.t t_o1
      have t_o2 := hG.t t_o2
      have t_o3 := hG.t t_o3
      have hg := hg.tr hG
      refine lv_icmp_eq (tgt := 2580) hx hb dL_law_848 (by decide) (fun c11 => ?_) (fun c11 => ?_)
      · replace h := h.1 c11
        exact W.widen (by first | omega | (simp only [rmK, room_1]; omega)) (by first | omega | (simp only [rmK, room_1]; omega)) (kk q10.2 _ _ _ h hw t_o1 t_o2 t_o3 (lv_sub hl [0, 1, 2, 3, 4] rfl))
      · replace h := h.2 c11
        exact h.elim
  · replace h := h.2 c3
    refine lv_iconst (v := 1) hx hb dL_law_816 (by decide) ?_
    refine lv_goto (tgt := 821) hx hb dL_law_817 (by decide) ?_
    obtain ⟨q12, h_q12, h⟩ := h
    refine z_VI E F hw [.int (xs (Int32.toNatClampNeg (x4 + (1 : Int32)))), .int (1 : Int32)] (k_X10_stone l D cy kc o1 (xs (Int32.toNatClampNeg (x4 + (1 : Int32)))) (1 : Int32) S h_q12 t_o1) t_o1 cf10 mk_X10_stone vk_X10_stone ml_L_127 ⟨by decide, by decide⟩ rfl hl.1 rfl (Nat.le_of_ble_eq_true rfl) dL_law_821 ⟨(by first | omega | (simp only [rmK, room_1]; omega)), (by first | omega | (simp only [rmK, room_1]; omega))⟩ (fun H locs hw hG => ?_)
    have t_o1 := hG.t t_o1
    have t_o2 := hG.t t_o2
    have t_o3 := hG.t t_o3
    have hg := hg.tr hG
    refine lv_aload_n hx hb dL_law_824 rfl (lv_at hl 2 rfl) ?_
    refine lv_aload_n hx hb dL_law_825 rfl (lv_at hl 0 rfl) ?_
    refine lv_iload hx hb dL_law_826 (lv_at hl 4 rfl) ?_
    refine lv_iconst (v := 1) hx hb dL_law_828 (by decide) ?_
    refine lv_iadd hx hb dL_law_829 ?_
    obtain ⟨c13, h⟩ := h
    refine va_sld hx hb hX hbl hbA hw.2.2 (ib_in c13) dL_law_830 ?_
    refine lv_aload_n hx hb dL_law_831 rfl (lv_at hl 0 rfl) ?_
    refine lv_iload hx hb dL_law_832 (lv_at hl 4 rfl) ?_
    refine lv_iconst (v := 2) hx hb dL_law_834 (by decide) ?_
    refine lv_iadd hx hb dL_law_835 ?_
    obtain ⟨c14, h⟩ := h
    refine va_sld hx hb hX hbl hbA hw.2.2 (ib_in c14) dL_law_836 ?_
    refine lv_if_eq (tgt := 844) hx hb dL_law_837 (by decide) (fun c15 => ?_) (fun c15 => ?_)
    · replace h := h.1 c15
      refine lv_iconst (v := 0) hx hb dL_law_844 (by decide) ?_
      obtain ⟨q16, h_q16, h⟩ := h
      refine z_VI E F hw [.int (xs (Int32.toNatClampNeg (x4 + (1 : Int32)))), .int (0 : Int32)] (k_X11_stone l D cy kc o2 (xs (Int32.toNatClampNeg (x4 + (1 : Int32)))) (0 : Int32) q12.2 h_q16 t_o2) t_o2 cf11 mk_X11_stone vk_X11_stone ml_L_131 ⟨by decide, by decide⟩ rfl hl.1 rfl (Nat.le_of_ble_eq_true rfl) dL_law_845 ⟨(by first | omega | (simp only [rmK, room_1]; omega)), (by first | omega | (simp only [rmK, room_1]; omega))⟩ (fun H locs hw hG => ?_)
      have t_o1 := hG.t t_o1
      have t_o2 := hG.t t_o2
      have t_o3 := hG.t t_o3
      have hg := hg.tr hG
      refine lv_icmp_eq (tgt := 2580) hx hb dL_law_848 (by decide) (fun c17 => ?_) (fun c17 => ?_)
      · replace h := h.1 c17
        exact W.widen (by first | omega | (simp only [rmK, room_1]; omega)) (by first | omega | (simp only [rmK, room_1]; omega)) (kk q16.2 _ _ _ h hw t_o1 t_o2 t_o3 (lv_sub hl [0, 1, 2, 3, 4] rfl))
      · replace h := h.2 c17
        exact h.elim
    · replace h := h.2 c15
      refine lv_iconst (v := 1) hx hb dL_law_840 (by decide) ?_
      refine lv_goto (tgt := 845) hx hb dL_law_841 (by decide) ?_
      obtain ⟨q18, h_q18, h⟩ := h
      refine z_VI E F hw [.int (xs (Int32.toNatClampNeg (x4 + (1 : Int32)))), .int (1 : Int32)] (k_X11_stone l D cy kc o2 (xs (Int32.toNatClampNeg (x4 + (1 : Int32)))) (1 : Int32) q12.2 h_q18 t_o2) t_o2 cf11 mk_X11_stone vk_X11_stone ml_L_131 ⟨by decide, by decide⟩ rfl hl.1 rfl (Nat.le_of_ble_eq_true rfl) dL_law_845 ⟨(by first | omega | (simp only [rmK, room_1]; omega)), (by first | omega | (simp only [rmK, room_1]; omega))⟩ (fun H locs hw hG => ?_)
      have t_o1 := hG.t t_o1
      have t_o2 := hG.t t_o2
      have t_o3 := hG.t t_o3
      have hg := hg.tr hG
      refine lv_icmp_eq (tgt := 2580) hx hb dL_law_848 (by decide) (fun c19 => ?_) (fun c19 => ?_)
      · replace h := h.1 c19
        exact W.widen (by first | omega | (simp only [rmK, room_1]; omega)) (by first | omega | (simp only [rmK, room_1]; omega)) (kk q18.2 _ _ _ h hw t_o1 t_o2 t_o3 (lv_sub hl [0, 1, 2, 3, 4] rfl))
      · replace h := h.2 c19
        exact h.elim
def gl_10 (L : Nat) (xs : Nat → Int32) (o1 o2 o3 : Nat) (x4 : Int32) (S : PS) (K : PS → Prop) : Prop :=
  (ib (x4 + (1 : Int32)) L = true) ∧ ((ib (x4 + (2 : Int32)) L = true) ∧ ((ib (x4 + (3 : Int32)) L = true) ∧ (g_L_odds o1 (xs (Int32.toNatClampNeg (x4 + (1 : Int32)))) (xs (Int32.toNatClampNeg (x4 + (2 : Int32)))) (xs (Int32.toNatClampNeg (x4 + (3 : Int32)))) o3 S (fun (r5 : Int32) (S4 : PS) => ((ib (x4 + (1 : Int32)) L = true) ∧ ((ib (x4 + (2 : Int32)) L = true) ∧ ((ib (x4 + (3 : Int32)) L = true) ∧ (∃ q9, (f_X11_odds o2 (xs (Int32.toNatClampNeg (x4 + (1 : Int32)))) (xs (Int32.toNatClampNeg (x4 + (2 : Int32)))) (xs (Int32.toNatClampNeg (x4 + (3 : Int32)))) S4) = some q9 ∧ (∃ q10, (f_X11_thrown o2 q9.2) = some q10 ∧ (((q10.1 = r5 → (((r5 = (0 : Int32) → ((ib (0 : Int32) (sN q10.2 o3) = true) ∧ ((((lg_cmp (sJ q10.2 o3 (Int32.toNatClampNeg (0 : Int32))) q9.1) = (0 : Int32) → (K q10.2)) ∧ (¬ (lg_cmp (sJ q10.2 o3 (Int32.toNatClampNeg (0 : Int32))) q9.1) = (0 : Int32) → (False)))))) ∧ (¬ r5 = (0 : Int32) → (K q10.2))))) ∧ (¬ q10.1 = r5 → (False)))))))))))))
set_option maxHeartbeats 4000000 in
theorem lc_10 {p : Program} {l : Launch} {e : Env} {s : State} {m : MethodId} {args : Array Value} {below : List Frame} {meth : Method} {c : Code} {H : Heap} {locs : List Loc} {ls : Array Slot} {Q : State → Prop} {D : va_G} {cy : Nat → ClassId} {kc : Nat → Nat} {A : Nat → Prop} {b L : Nat} {xs : Nat → Int32} {c0 s0 : Nat} (hst : l.stackTraces = false) (E : CallFix p m c cL_law 8 s args LW RL) (F : Fx D cy kc A s) (hX : va_X b L xs s s.heap) (hbl : b < s.heap.size) (hbA : ¬ A b) (o1 o2 o3 : Nat) (x4 : Int32) (S : PS) {K : PS → Prop} (h : gl_10 L xs o1 o2 o3 x4 S K) (hc : c0 + 30 ≤ 601024) (hs : s0 + 9152 ≤ 7293034) (hw : Wd D cy A s H locs S) (t_o1 : tD S o1 10) (t_o2 : tD S o2 11) (t_o3 : tD S o3 14) (hl : lv_has ls 8 [(0, .ref b), (1, .ref o1), (2, .ref o2), (3, .ref o3), (4, .int x4)])
    (kk : ∀ (S1 : PS) (H : Heap) (locs : List Loc) (ls : Array Slot), K S1 → Wd D cy A s H locs S1 → tD S1 o1 10 → tD S1 o2 11 → tD S1 o3 14 → lv_has ls 8 [(0, .ref b), (1, .ref o1), (2, .ref o2), (3, .ref o3), (4, .int x4)] → W p l e room_1 s m args below meth c H locs (c0 + 30) (s0 + 9152) Q (F0 m 2580 ls [])) : W p l e room_1 s m args below meth c H locs c0 s0 Q (F0 m 853 ls []) := by
  have hx := E.1
  have hb := E.2.1
  have hg : Gr S S := Gr.rf
  rw [gl_10] at h
  refine lv_aload_n hx hb dL_law_853 rfl (lv_at hl 1 rfl) ?_
  refine lv_aload_n hx hb dL_law_854 rfl (lv_at hl 0 rfl) ?_
  refine lv_iload hx hb dL_law_855 (lv_at hl 4 rfl) ?_
  refine lv_iconst (v := 1) hx hb dL_law_857 (by decide) ?_
  refine lv_iadd hx hb dL_law_858 ?_
  obtain ⟨c1, h⟩ := h
  refine va_sld hx hb hX hbl hbA hw.2.2 (ib_in c1) dL_law_859 ?_
  refine lv_aload_n hx hb dL_law_860 rfl (lv_at hl 0 rfl) ?_
  refine lv_iload hx hb dL_law_861 (lv_at hl 4 rfl) ?_
  refine lv_iconst (v := 2) hx hb dL_law_863 (by decide) ?_
  refine lv_iadd hx hb dL_law_864 ?_
  obtain ⟨c2, h⟩ := h
  refine va_sld hx hb hX hbl hbA hw.2.2 (ib_in c2) dL_law_865 ?_
  refine lv_aload_n hx hb dL_law_866 rfl (lv_at hl 0 rfl) ?_
  refine lv_iload hx hb dL_law_867 (lv_at hl 4 rfl) ?_
  refine lv_iconst (v := 3) hx hb dL_law_869 (by decide) ?_
  refine lv_iadd hx hb dL_law_870 ?_
  obtain ⟨c3, h⟩ := h
  refine va_sld hx hb hX hbl hbA hw.2.2 (ib_in c3) dL_law_871 ?_
  refine lv_aload_n hx hb dL_law_872 rfl (lv_at hl 3 rfl) ?_
  refine l_SI E F hw [.ref o1, .int (xs (Int32.toNatClampNeg (x4 + (1 : Int32)))), .int (xs (Int32.toNatClampNeg (x4 + (2 : Int32)))), .int (xs (Int32.toNatClampNeg (x4 + (3 : Int32)))), .ref o3] (k_L_odds l hst D cy kc o1 (xs (Int32.toNatClampNeg (x4 + (1 : Int32)))) (xs (Int32.toNatClampNeg (x4 + (2 : Int32)))) (xs (Int32.toNatClampNeg (x4 + (3 : Int32)))) o3 S h t_o1 t_o3) lk_L_odds ml_L_132 ⟨by decide, by decide⟩ rfl hl.1 rfl (Nat.le_of_ble_eq_true rfl) dL_law_873 ⟨(by first | omega | (simp only [rmK, room_1]; omega)), (by first | omega | (simp only [rmK, room_1]; omega))⟩ (fun r5 S4 H locs h hw hG => ?_)
  have t_o1 := hG.t t_o1
  have t_o2 := hG.t t_o2
  have t_o3 := hG.t t_o3
  have hg := hg.tr hG
  refine lv_istore (lv' := [(5, .int r5), (0, .ref b), (1, .ref o1), (2, .ref o2), (3, .ref o3), (4, .int x4)]) hx hb dL_law_876 hl (by decide) rfl (fun ls hl => ?_)
  refine lv_aload_n hx hb dL_law_878 rfl (lv_at hl 3 rfl) ?_
  refine lv_aload_n hx hb dL_law_879 rfl (lv_at hl 1 rfl) ?_
  refine lv_iload hx hb dL_law_880 (lv_at hl 5 rfl) ?_
  refine lv_iconst (v := 1) hx hb dL_law_882 (by decide) ?_
  refine lv_iadd hx hb dL_law_883 ?_
  obtain ⟨c6, h⟩ := h
  refine va_sld hx hb hX hbl hbA hw.2.2 (ib_in c6) dL_law_884 ?_
  refine lv_aload_n hx hb dL_law_885 rfl (lv_at hl 1 rfl) ?_
  refine lv_iload hx hb dL_law_886 (lv_at hl 5 rfl) ?_
  refine lv_iconst (v := 2) hx hb dL_law_888 (by decide) ?_
  refine lv_iadd hx hb dL_law_889 ?_
  obtain ⟨c7, h⟩ := h
  refine va_sld hx hb hX hbl hbA hw.2.2 (ib_in c7) dL_law_890 ?_
  refine lv_aload_n hx hb dL_law_891 rfl (lv_at hl 1 rfl) ?_
  refine lv_iload hx hb dL_law_892 (lv_at hl 5 rfl) ?_
  refine lv_iconst (v := 3) hx hb dL_law_894 (by decide) ?_
  refine lv_iadd hx hb dL_law_895 ?_
  obtain ⟨c8, h⟩ := h
  refine va_sld hx hb hX hbl hbA hw.2.2 (ib_in c8) dL_law_896 ?_
  obtain ⟨q9, h_q9, h⟩ := h
  refine z_VJ E F hw [.int (xs (Int32.toNatClampNeg (x4 + (1 : Int32)))), .int (xs (Int32.toNatClampNeg (x4 + (2 : Int32)))), .int (xs (Int32.toNatClampNeg (x4 + (3 : Int32))))] (k_X11_odds l D cy kc o2 (xs (Int32.toNatClampNeg (x4 + (1 : Int32)))) (xs (Int32.toNatClampNeg (x4 + (2 : Int32)))) (xs (Int32.toNatClampNeg (x4 + (3 : Int32)))) S4 h_q9 t_o2) t_o2 cf11 mk_X11_odds vk_X11_odds ml_L_135 ⟨by decide, by decide⟩ rfl hl.1 rfl (Nat.le_of_ble_eq_true rfl) dL_law_897 ⟨(by first | omega | (simp only [rmK, room_1]; omega)), (by first | omega | (simp only [rmK, room_1]; omega))⟩ (fun H locs hw hG => ?_)
  have t_o1 := hG.t t_o1
  have t_o2 := hG.t t_o2
  have t_o3 := hG.t t_o3
  have hg := hg.tr hG
  refine lv_lstore (lv' := [(6, .long q9.1), (5, .int r5), (0, .ref b), (1, .ref o1), (2, .ref o2), (3, .ref o3), (4, .int x4)]) hx hb dL_law_900 hl (by decide) rfl (fun ls hl => ?_)
  refine lv_aload_n hx hb dL_law_902 rfl (lv_at hl 4 rfl) ?_
  obtain ⟨q10, h_q10, h⟩ := h
  refine z_VI E F hw [] (k_X11_thrown l D cy kc o2 q9.2 h_q10 t_o2) t_o2 cf11 mk_X11_thrown vk_X11_thrown ml_L_102 ⟨by decide, by decide⟩ rfl hl.1 rfl (Nat.le_of_ble_eq_true rfl) dL_law_903 ⟨(by first | omega | (simp only [rmK, room_1]; omega)), (by first | omega | (simp only [rmK, room_1]; omega))⟩ (fun H locs hw hG => ?_)
  have t_o1 := hG.t t_o1
  have t_o2 := hG.t t_o2
  have t_o3 := hG.t t_o3
  have hg := hg.tr hG
  refine lv_iload hx hb dL_law_906 (lv_at hl 1 rfl) ?_
  refine lv_icmp_eq (tgt := 913) hx hb dL_law_908 (by decide) (fun c11 => ?_) (fun c11 => ?_)
  · replace h := h.1 c11
    refine lv_iload hx hb dL_law_913 (lv_at hl 1 rfl) ?_
    refine lv_if_ne (tgt := 929) hx hb dL_law_915 (by decide) (fun c12 => ?_) (fun c12 => ?_)
    · replace h := h.2 c12
      refine lv_goto (tgt := 2580) hx hb dL_law_929 (by decide) ?_
      exact W.widen (by first | omega | (simp only [rmK, room_1]; omega)) (by first | omega | (simp only [rmK, room_1]; omega)) (kk q10.2 _ _ _ h hw t_o1 t_o2 t_o3 (lv_sub hl [2, 3, 4, 5, 6] rfl))
    · replace h := h.1 c12
      refine lv_aload_n hx hb dL_law_918 rfl (lv_at hl 5 rfl) ?_
      refine lv_iconst (v := 0) hx hb dL_law_919 (by decide) ?_
      obtain ⟨c13, h⟩ := h
      refine a_j E F hw t_o3 c13 dL_law_920 ?_
      refine lv_lload hx hb dL_law_921 (lv_at hl 0 rfl) ?_
      refine W.lcmp hx hb dL_law_923 ?_
      refine lv_if_eq (tgt := 929) hx hb dL_law_924 (by decide) (fun c14 => ?_) (fun c14 => ?_)
      · replace h := h.1 c14
        refine lv_goto (tgt := 2580) hx hb dL_law_929 (by decide) ?_
        exact W.widen (by first | omega | (simp only [rmK, room_1]; omega)) (by first | omega | (simp only [rmK, room_1]; omega)) (kk q10.2 _ _ _ h hw t_o1 t_o2 t_o3 (lv_sub hl [2, 3, 4, 5, 6] rfl))
      · replace h := h.2 c14
        exact h.elim
  · replace h := h.2 c11
    exact h.elim
def gl_11 (L : Nat) (xs : Nat → Int32) (o1 o2 o3 : Nat) (x4 : Int32) (S : PS) (K : PS → Prop) : Prop :=
  (ib (x4 + (1 : Int32)) L = true) ∧ ((ib (x4 + (2 : Int32)) L = true) ∧ (g_L_stir o1 (xs (Int32.toNatClampNeg (x4 + (1 : Int32)))) (xs (Int32.toNatClampNeg (x4 + (2 : Int32)))) o3 S (fun (r4 : Int32) (S3 : PS) => ((ib (x4 + (1 : Int32)) L = true) ∧ ((ib (x4 + (2 : Int32)) L = true) ∧ (∃ q7, (f_X11_stir o2 (xs (Int32.toNatClampNeg (x4 + (1 : Int32)))) (xs (Int32.toNatClampNeg (x4 + (2 : Int32)))) S3) = some q7 ∧ (∃ q8, (f_X11_thrown o2 q7.2) = some q8 ∧ (((q8.1 = r4 → (((r4 = (0 : Int32) → ((ib (0 : Int32) (sN q8.2 o3) = true) ∧ ((((lg_cmp (sJ q8.2 o3 (Int32.toNatClampNeg (0 : Int32))) q7.1) = (0 : Int32) → (K q8.2)) ∧ (¬ (lg_cmp (sJ q8.2 o3 (Int32.toNatClampNeg (0 : Int32))) q7.1) = (0 : Int32) → (False)))))) ∧ (¬ r4 = (0 : Int32) → (K q8.2))))) ∧ (¬ q8.1 = r4 → (False)))))))))))
set_option maxHeartbeats 4000000 in
theorem lc_11 {p : Program} {l : Launch} {e : Env} {s : State} {m : MethodId} {args : Array Value} {below : List Frame} {meth : Method} {c : Code} {H : Heap} {locs : List Loc} {ls : Array Slot} {Q : State → Prop} {D : va_G} {cy : Nat → ClassId} {kc : Nat → Nat} {A : Nat → Prop} {b L : Nat} {xs : Nat → Int32} {c0 s0 : Nat} (hst : l.stackTraces = false) (E : CallFix p m c cL_law 8 s args LW RL) (F : Fx D cy kc A s) (hX : va_X b L xs s s.heap) (hbl : b < s.heap.size) (hbA : ¬ A b) (o1 o2 o3 : Nat) (x4 : Int32) (S : PS) {K : PS → Prop} (h : gl_11 L xs o1 o2 o3 x4 S K) (hc : c0 + 30 ≤ 601024) (hs : s0 + 9152 ≤ 7293034) (hw : Wd D cy A s H locs S) (t_o1 : tD S o1 10) (t_o2 : tD S o2 11) (t_o3 : tD S o3 14) (hl : lv_has ls 8 [(0, .ref b), (1, .ref o1), (2, .ref o2), (3, .ref o3), (4, .int x4)])
    (kk : ∀ (S1 : PS) (H : Heap) (locs : List Loc) (ls : Array Slot), K S1 → Wd D cy A s H locs S1 → tD S1 o1 10 → tD S1 o2 11 → tD S1 o3 14 → lv_has ls 8 [(0, .ref b), (1, .ref o1), (2, .ref o2), (3, .ref o3), (4, .int x4)] → W p l e room_1 s m args below meth c H locs (c0 + 30) (s0 + 9152) Q (F0 m 2580 ls [])) : W p l e room_1 s m args below meth c H locs c0 s0 Q (F0 m 932 ls []) := by
  have hx := E.1
  have hb := E.2.1
  have hg : Gr S S := Gr.rf
  rw [gl_11] at h
  refine lv_aload_n hx hb dL_law_932 rfl (lv_at hl 1 rfl) ?_
  refine lv_aload_n hx hb dL_law_933 rfl (lv_at hl 0 rfl) ?_
  refine lv_iload hx hb dL_law_934 (lv_at hl 4 rfl) ?_
  refine lv_iconst (v := 1) hx hb dL_law_936 (by decide) ?_
  refine lv_iadd hx hb dL_law_937 ?_
  obtain ⟨c1, h⟩ := h
  refine va_sld hx hb hX hbl hbA hw.2.2 (ib_in c1) dL_law_938 ?_
  refine lv_aload_n hx hb dL_law_939 rfl (lv_at hl 0 rfl) ?_
  refine lv_iload hx hb dL_law_940 (lv_at hl 4 rfl) ?_
  refine lv_iconst (v := 2) hx hb dL_law_942 (by decide) ?_
  refine lv_iadd hx hb dL_law_943 ?_
  obtain ⟨c2, h⟩ := h
  refine va_sld hx hb hX hbl hbA hw.2.2 (ib_in c2) dL_law_944 ?_
  refine lv_aload_n hx hb dL_law_945 rfl (lv_at hl 3 rfl) ?_
  refine l_SI E F hw [.ref o1, .int (xs (Int32.toNatClampNeg (x4 + (1 : Int32)))), .int (xs (Int32.toNatClampNeg (x4 + (2 : Int32)))), .ref o3] (k_L_stir l hst D cy kc o1 (xs (Int32.toNatClampNeg (x4 + (1 : Int32)))) (xs (Int32.toNatClampNeg (x4 + (2 : Int32)))) o3 S h t_o1 t_o3) lk_L_stir ml_L_136 ⟨by decide, by decide⟩ rfl hl.1 rfl (Nat.le_of_ble_eq_true rfl) dL_law_946 ⟨(by first | omega | (simp only [rmK, room_1]; omega)), (by first | omega | (simp only [rmK, room_1]; omega))⟩ (fun r4 S3 H locs h hw hG => ?_)
  have t_o1 := hG.t t_o1
  have t_o2 := hG.t t_o2
  have t_o3 := hG.t t_o3
  have hg := hg.tr hG
  refine lv_istore (lv' := [(5, .int r4), (0, .ref b), (1, .ref o1), (2, .ref o2), (3, .ref o3), (4, .int x4)]) hx hb dL_law_949 hl (by decide) rfl (fun ls hl => ?_)
  refine lv_aload_n hx hb dL_law_951 rfl (lv_at hl 3 rfl) ?_
  refine lv_aload_n hx hb dL_law_952 rfl (lv_at hl 1 rfl) ?_
  refine lv_iload hx hb dL_law_953 (lv_at hl 5 rfl) ?_
  refine lv_iconst (v := 1) hx hb dL_law_955 (by decide) ?_
  refine lv_iadd hx hb dL_law_956 ?_
  obtain ⟨c5, h⟩ := h
  refine va_sld hx hb hX hbl hbA hw.2.2 (ib_in c5) dL_law_957 ?_
  refine lv_aload_n hx hb dL_law_958 rfl (lv_at hl 1 rfl) ?_
  refine lv_iload hx hb dL_law_959 (lv_at hl 5 rfl) ?_
  refine lv_iconst (v := 2) hx hb dL_law_961 (by decide) ?_
  refine lv_iadd hx hb dL_law_962 ?_
  obtain ⟨c6, h⟩ := h
  refine va_sld hx hb hX hbl hbA hw.2.2 (ib_in c6) dL_law_963 ?_
  obtain ⟨q7, h_q7, h⟩ := h
  refine z_VJ E F hw [.int (xs (Int32.toNatClampNeg (x4 + (1 : Int32)))), .int (xs (Int32.toNatClampNeg (x4 + (2 : Int32))))] (k_X11_stir l D cy kc o2 (xs (Int32.toNatClampNeg (x4 + (1 : Int32)))) (xs (Int32.toNatClampNeg (x4 + (2 : Int32)))) S3 h_q7 t_o2) t_o2 cf11 mk_X11_stir vk_X11_stir ml_L_139 ⟨by decide, by decide⟩ rfl hl.1 rfl (Nat.le_of_ble_eq_true rfl) dL_law_964 ⟨(by first | omega | (simp only [rmK, room_1]; omega)), (by first | omega | (simp only [rmK, room_1]; omega))⟩ (fun H locs hw hG => ?_)
  have t_o1 := hG.t t_o1
  have t_o2 := hG.t t_o2
  have t_o3 := hG.t t_o3
  have hg := hg.tr hG
  refine lv_lstore (lv' := [(6, .long q7.1), (5, .int r4), (0, .ref b), (1, .ref o1), (2, .ref o2), (3, .ref o3), (4, .int x4)]) hx hb dL_law_967 hl (by decide) rfl (fun ls hl => ?_)
  refine lv_aload_n hx hb dL_law_969 rfl (lv_at hl 4 rfl) ?_
  obtain ⟨q8, h_q8, h⟩ := h
  refine z_VI E F hw [] (k_X11_thrown l D cy kc o2 q7.2 h_q8 t_o2) t_o2 cf11 mk_X11_thrown vk_X11_thrown ml_L_102 ⟨by decide, by decide⟩ rfl hl.1 rfl (Nat.le_of_ble_eq_true rfl) dL_law_970 ⟨(by first | omega | (simp only [rmK, room_1]; omega)), (by first | omega | (simp only [rmK, room_1]; omega))⟩ (fun H locs hw hG => ?_)
  have t_o1 := hG.t t_o1
  have t_o2 := hG.t t_o2
  have t_o3 := hG.t t_o3
  have hg := hg.tr hG
  refine lv_iload hx hb dL_law_973 (lv_at hl 1 rfl) ?_
  refine lv_icmp_eq (tgt := 980) hx hb dL_law_975 (by decide) (fun c9 => ?_) (fun c9 => ?_)
  · replace h := h.1 c9
    refine lv_iload hx hb dL_law_980 (lv_at hl 1 rfl) ?_
    refine lv_if_ne (tgt := 996) hx hb dL_law_982 (by decide) (fun c10 => ?_) (fun c10 => ?_)
    · replace h := h.2 c10
      refine lv_goto (tgt := 2580) hx hb dL_law_996 (by decide) ?_
      exact W.widen (by first | omega | (simp only [rmK, room_1]; omega)) (by first | omega | (simp only [rmK, room_1]; omega)) (kk q8.2 _ _ _ h hw t_o1 t_o2 t_o3 (lv_sub hl [2, 3, 4, 5, 6] rfl))
    · replace h := h.1 c10
      refine lv_aload_n hx hb dL_law_985 rfl (lv_at hl 5 rfl) ?_
      refine lv_iconst (v := 0) hx hb dL_law_986 (by decide) ?_
      obtain ⟨c11, h⟩ := h
      refine a_j E F hw t_o3 c11 dL_law_987 ?_
      refine lv_lload hx hb dL_law_988 (lv_at hl 0 rfl) ?_
      refine W.lcmp hx hb dL_law_990 ?_
      refine lv_if_eq (tgt := 996) hx hb dL_law_991 (by decide) (fun c12 => ?_) (fun c12 => ?_)
      · replace h := h.1 c12
        refine lv_goto (tgt := 2580) hx hb dL_law_996 (by decide) ?_
        exact W.widen (by first | omega | (simp only [rmK, room_1]; omega)) (by first | omega | (simp only [rmK, room_1]; omega)) (kk q8.2 _ _ _ h hw t_o1 t_o2 t_o3 (lv_sub hl [2, 3, 4, 5, 6] rfl))
      · replace h := h.2 c12
        exact h.elim
  · replace h := h.2 c9
    exact h.elim
def gl_12 (L : Nat) (xs : Nat → Int32) (o1 o2 o3 : Nat) (x4 : Int32) (S : PS) (K : PS → Prop) : Prop :=
  (ib (x4 + (1 : Int32)) L = true) ∧ (∃ q2, (f_X10_settled o1 (xs (Int32.toNatClampNeg (x4 + (1 : Int32)))) S) = some q2 ∧ ((ib (x4 + (1 : Int32)) L = true) ∧ (∃ q4, (f_X11_settled o2 (xs (Int32.toNatClampNeg (x4 + (1 : Int32)))) q2.2) = some q4 ∧ (((q2.1 = q4.1 → (K q4.2)) ∧ (¬ q2.1 = q4.1 → (False)))))))
set_option maxHeartbeats 4000000 in
theorem lc_12 {p : Program} {l : Launch} {e : Env} {s : State} {m : MethodId} {args : Array Value} {below : List Frame} {meth : Method} {c : Code} {H : Heap} {locs : List Loc} {ls : Array Slot} {Q : State → Prop} {D : va_G} {cy : Nat → ClassId} {kc : Nat → Nat} {A : Nat → Prop} {b L : Nat} {xs : Nat → Int32} {c0 s0 : Nat} (hst : l.stackTraces = false) (E : CallFix p m c cL_law 8 s args LW RL) (F : Fx D cy kc A s) (hX : va_X b L xs s s.heap) (hbl : b < s.heap.size) (hbA : ¬ A b) (o1 o2 o3 : Nat) (x4 : Int32) (S : PS) {K : PS → Prop} (h : gl_12 L xs o1 o2 o3 x4 S K) (hc : c0 + 30 ≤ 601024) (hs : s0 + 9152 ≤ 7293034) (hw : Wd D cy A s H locs S) (t_o1 : tD S o1 10) (t_o2 : tD S o2 11) (t_o3 : tD S o3 14) (hl : lv_has ls 8 [(0, .ref b), (1, .ref o1), (2, .ref o2), (3, .ref o3), (4, .int x4)])
    (kk : ∀ (S1 : PS) (H : Heap) (locs : List Loc) (ls : Array Slot), K S1 → Wd D cy A s H locs S1 → tD S1 o1 10 → tD S1 o2 11 → tD S1 o3 14 → lv_has ls 8 [(0, .ref b), (1, .ref o1), (2, .ref o2), (3, .ref o3), (4, .int x4)] → W p l e room_1 s m args below meth c H locs (c0 + 30) (s0 + 9152) Q (F0 m 2580 ls [])) : W p l e room_1 s m args below meth c H locs c0 s0 Q (F0 m 999 ls []) := by
  have hx := E.1
  have hb := E.2.1
  have hg : Gr S S := Gr.rf
  rw [gl_12] at h
  refine lv_aload_n hx hb dL_law_999 rfl (lv_at hl 1 rfl) ?_
  refine lv_aload_n hx hb dL_law_1000 rfl (lv_at hl 0 rfl) ?_
  refine lv_iload hx hb dL_law_1001 (lv_at hl 4 rfl) ?_
  refine lv_iconst (v := 1) hx hb dL_law_1003 (by decide) ?_
  refine lv_iadd hx hb dL_law_1004 ?_
  obtain ⟨c1, h⟩ := h
  refine va_sld hx hb hX hbl hbA hw.2.2 (ib_in c1) dL_law_1005 ?_
  obtain ⟨q2, h_q2, h⟩ := h
  refine z_VI E F hw [.int (xs (Int32.toNatClampNeg (x4 + (1 : Int32))))] (k_X10_settled l D cy kc o1 (xs (Int32.toNatClampNeg (x4 + (1 : Int32)))) S h_q2 t_o1) t_o1 cf10 mk_X10_settled vk_X10_settled ml_L_140 ⟨by decide, by decide⟩ rfl hl.1 rfl (Nat.le_of_ble_eq_true rfl) dL_law_1006 ⟨(by first | omega | (simp only [rmK, room_1]; omega)), (by first | omega | (simp only [rmK, room_1]; omega))⟩ (fun H locs hw hG => ?_)
  have t_o1 := hG.t t_o1
  have t_o2 := hG.t t_o2
  have t_o3 := hG.t t_o3
  have hg := hg.tr hG
  refine lv_aload_n hx hb dL_law_1009 rfl (lv_at hl 2 rfl) ?_
  refine lv_aload_n hx hb dL_law_1010 rfl (lv_at hl 0 rfl) ?_
  refine lv_iload hx hb dL_law_1011 (lv_at hl 4 rfl) ?_
  refine lv_iconst (v := 1) hx hb dL_law_1013 (by decide) ?_
  refine lv_iadd hx hb dL_law_1014 ?_
  obtain ⟨c3, h⟩ := h
  refine va_sld hx hb hX hbl hbA hw.2.2 (ib_in c3) dL_law_1015 ?_
  obtain ⟨q4, h_q4, h⟩ := h
  refine z_VI E F hw [.int (xs (Int32.toNatClampNeg (x4 + (1 : Int32))))] (k_X11_settled l D cy kc o2 (xs (Int32.toNatClampNeg (x4 + (1 : Int32)))) q2.2 h_q4 t_o2) t_o2 cf11 mk_X11_settled vk_X11_settled ml_L_144 ⟨by decide, by decide⟩ rfl hl.1 rfl (Nat.le_of_ble_eq_true rfl) dL_law_1016 ⟨(by first | omega | (simp only [rmK, room_1]; omega)), (by first | omega | (simp only [rmK, room_1]; omega))⟩ (fun H locs hw hG => ?_)
  have t_o1 := hG.t t_o1
  have t_o2 := hG.t t_o2
  have t_o3 := hG.t t_o3
  have hg := hg.tr hG
  refine lv_icmp_eq (tgt := 2580) hx hb dL_law_1019 (by decide) (fun c5 => ?_) (fun c5 => ?_)
  · replace h := h.1 c5
    exact W.widen (by first | omega | (simp only [rmK, room_1]; omega)) (by first | omega | (simp only [rmK, room_1]; omega)) (kk q4.2 _ _ _ h hw t_o1 t_o2 t_o3 (lv_sub hl [0, 1, 2, 3, 4] rfl))
  · replace h := h.2 c5
    exact h.elim
def gl_13 (L : Nat) (xs : Nat → Int32) (o1 o2 o3 : Nat) (x4 : Int32) (S : PS) (K : PS → Prop) : Prop :=
  (ib (x4 + (1 : Int32)) L = true) ∧ ((ib (x4 + (2 : Int32)) L = true) ∧ ((ib (x4 + (3 : Int32)) L = true) ∧ ((ib (x4 + (4 : Int32)) L = true) ∧ ((ib (x4 + (5 : Int32)) L = true) ∧ (g_L_price o1 (xs (Int32.toNatClampNeg (x4 + (1 : Int32)))) (xs (Int32.toNatClampNeg (x4 + (2 : Int32)))) (xs (Int32.toNatClampNeg (x4 + (3 : Int32)))) (xs (Int32.toNatClampNeg (x4 + (4 : Int32)))) (xs (Int32.toNatClampNeg (x4 + (5 : Int32)))) o3 S (fun (r7 : Int32) (S6 : PS) => ((ib (x4 + (1 : Int32)) L = true) ∧ ((ib (x4 + (2 : Int32)) L = true) ∧ ((ib (x4 + (3 : Int32)) L = true) ∧ ((ib (x4 + (4 : Int32)) L = true) ∧ ((ib (x4 + (5 : Int32)) L = true) ∧ (∃ q13, (f_X11_price o2 (xs (Int32.toNatClampNeg (x4 + (1 : Int32)))) (xs (Int32.toNatClampNeg (x4 + (2 : Int32)))) (xs (Int32.toNatClampNeg (x4 + (3 : Int32)))) (xs (Int32.toNatClampNeg (x4 + (4 : Int32)))) (xs (Int32.toNatClampNeg (x4 + (5 : Int32)))) S6) = some q13 ∧ (∃ q14, (f_X11_thrown o2 q13.2) = some q14 ∧ (((q14.1 = r7 → (((r7 = (0 : Int32) → ((ib (0 : Int32) (sN q14.2 o3) = true) ∧ ((((lg_cmp (sJ q14.2 o3 (Int32.toNatClampNeg (0 : Int32))) q13.1) = (0 : Int32) → (K q14.2)) ∧ (¬ (lg_cmp (sJ q14.2 o3 (Int32.toNatClampNeg (0 : Int32))) q13.1) = (0 : Int32) → (False)))))) ∧ (¬ r7 = (0 : Int32) → (K q14.2))))) ∧ (¬ q14.1 = r7 → (False)))))))))))))))))
set_option maxHeartbeats 4000000 in
theorem lc_13 {p : Program} {l : Launch} {e : Env} {s : State} {m : MethodId} {args : Array Value} {below : List Frame} {meth : Method} {c : Code} {H : Heap} {locs : List Loc} {ls : Array Slot} {Q : State → Prop} {D : va_G} {cy : Nat → ClassId} {kc : Nat → Nat} {A : Nat → Prop} {b L : Nat} {xs : Nat → Int32} {c0 s0 : Nat} (hst : l.stackTraces = false) (E : CallFix p m c cL_law 8 s args LW RL) (F : Fx D cy kc A s) (hX : va_X b L xs s s.heap) (hbl : b < s.heap.size) (hbA : ¬ A b) (o1 o2 o3 : Nat) (x4 : Int32) (S : PS) {K : PS → Prop} (h : gl_13 L xs o1 o2 o3 x4 S K) (hc : c0 + 30 ≤ 601024) (hs : s0 + 9152 ≤ 7293034) (hw : Wd D cy A s H locs S) (t_o1 : tD S o1 10) (t_o2 : tD S o2 11) (t_o3 : tD S o3 14) (hl : lv_has ls 8 [(0, .ref b), (1, .ref o1), (2, .ref o2), (3, .ref o3), (4, .int x4)])
    (kk : ∀ (S1 : PS) (H : Heap) (locs : List Loc) (ls : Array Slot), K S1 → Wd D cy A s H locs S1 → tD S1 o1 10 → tD S1 o2 11 → tD S1 o3 14 → lv_has ls 8 [(0, .ref b), (1, .ref o1), (2, .ref o2), (3, .ref o3), (4, .int x4)] → W p l e room_1 s m args below meth c H locs (c0 + 30) (s0 + 9152) Q (F0 m 2580 ls [])) : W p l e room_1 s m args below meth c H locs c0 s0 Q (F0 m 1024 ls []) := by
  have hx := E.1
  have hb := E.2.1
  have hg : Gr S S := Gr.rf
  rw [gl_13] at h
  refine lv_aload_n hx hb dL_law_1024 rfl (lv_at hl 1 rfl) ?_
  refine lv_aload_n hx hb dL_law_1025 rfl (lv_at hl 0 rfl) ?_
  refine lv_iload hx hb dL_law_1026 (lv_at hl 4 rfl) ?_
  refine lv_iconst (v := 1) hx hb dL_law_1028 (by decide) ?_
  refine lv_iadd hx hb dL_law_1029 ?_
  obtain ⟨c1, h⟩ := h
  refine va_sld hx hb hX hbl hbA hw.2.2 (ib_in c1) dL_law_1030 ?_
  refine lv_aload_n hx hb dL_law_1031 rfl (lv_at hl 0 rfl) ?_
  refine lv_iload hx hb dL_law_1032 (lv_at hl 4 rfl) ?_
  refine lv_iconst (v := 2) hx hb dL_law_1034 (by decide) ?_
  refine lv_iadd hx hb dL_law_1035 ?_
  obtain ⟨c2, h⟩ := h
  refine va_sld hx hb hX hbl hbA hw.2.2 (ib_in c2) dL_law_1036 ?_
  refine lv_aload_n hx hb dL_law_1037 rfl (lv_at hl 0 rfl) ?_
  refine lv_iload hx hb dL_law_1038 (lv_at hl 4 rfl) ?_
  refine lv_iconst (v := 3) hx hb dL_law_1040 (by decide) ?_
  refine lv_iadd hx hb dL_law_1041 ?_
  obtain ⟨c3, h⟩ := h
  refine va_sld hx hb hX hbl hbA hw.2.2 (ib_in c3) dL_law_1042 ?_
  refine lv_aload_n hx hb dL_law_1043 rfl (lv_at hl 0 rfl) ?_
  refine lv_iload hx hb dL_law_1044 (lv_at hl 4 rfl) ?_
  refine lv_iconst (v := 4) hx hb dL_law_1046 (by decide) ?_
  refine lv_iadd hx hb dL_law_1047 ?_
  obtain ⟨c4, h⟩ := h
  refine va_sld hx hb hX hbl hbA hw.2.2 (ib_in c4) dL_law_1048 ?_
  refine lv_aload_n hx hb dL_law_1049 rfl (lv_at hl 0 rfl) ?_
  refine lv_iload hx hb dL_law_1050 (lv_at hl 4 rfl) ?_
  refine lv_iconst (v := 5) hx hb dL_law_1052 (by decide) ?_
  refine lv_iadd hx hb dL_law_1053 ?_
  obtain ⟨c5, h⟩ := h
  refine va_sld hx hb hX hbl hbA hw.2.2 (ib_in c5) dL_law_1054 ?_
  refine lv_aload_n hx hb dL_law_1055 rfl (lv_at hl 3 rfl) ?_
  refine l_SI E F hw [.ref o1, .int (xs (Int32.toNatClampNeg (x4 + (1 : Int32)))), .int (xs (Int32.toNatClampNeg (x4 + (2 : Int32)))), .int (xs (Int32.toNatClampNeg (x4 + (3 : Int32)))), .int (xs (Int32.toNatClampNeg (x4 + (4 : Int32)))), .int (xs (Int32.toNatClampNeg (x4 + (5 : Int32)))), .ref o3] (k_L_price l hst D cy kc o1 (xs (Int32.toNatClampNeg (x4 + (1 : Int32)))) (xs (Int32.toNatClampNeg (x4 + (2 : Int32)))) (xs (Int32.toNatClampNeg (x4 + (3 : Int32)))) (xs (Int32.toNatClampNeg (x4 + (4 : Int32)))) (xs (Int32.toNatClampNeg (x4 + (5 : Int32)))) o3 S h t_o1 t_o3) lk_L_price ml_L_145 ⟨by decide, by decide⟩ rfl hl.1 rfl (Nat.le_of_ble_eq_true rfl) dL_law_1056 ⟨(by first | omega | (simp only [rmK, room_1]; omega)), (by first | omega | (simp only [rmK, room_1]; omega))⟩ (fun r7 S6 H locs h hw hG => ?_)
  have t_o1 := hG.t t_o1
  have t_o2 := hG.t t_o2
  have t_o3 := hG.t t_o3
  have hg := hg.tr hG
  refine lv_istore (lv' := [(5, .int r7), (0, .ref b), (1, .ref o1), (2, .ref o2), (3, .ref o3), (4, .int x4)]) hx hb dL_law_1059 hl (by decide) rfl (fun ls hl => ?_)
  refine lv_aload_n hx hb dL_law_1061 rfl (lv_at hl 3 rfl) ?_
  refine lv_aload_n hx hb dL_law_1062 rfl (lv_at hl 1 rfl) ?_
  refine lv_iload hx hb dL_law_1063 (lv_at hl 5 rfl) ?_
  refine lv_iconst (v := 1) hx hb dL_law_1065 (by decide) ?_
  refine lv_iadd hx hb dL_law_1066 ?_
  obtain ⟨c8, h⟩ := h
  refine va_sld hx hb hX hbl hbA hw.2.2 (ib_in c8) dL_law_1067 ?_
  refine lv_aload_n hx hb dL_law_1068 rfl (lv_at hl 1 rfl) ?_
  refine lv_iload hx hb dL_law_1069 (lv_at hl 5 rfl) ?_
  refine lv_iconst (v := 2) hx hb dL_law_1071 (by decide) ?_
  refine lv_iadd hx hb dL_law_1072 ?_
  obtain ⟨c9, h⟩ := h
  refine va_sld hx hb hX hbl hbA hw.2.2 (ib_in c9) dL_law_1073 ?_
  refine lv_aload_n hx hb dL_law_1074 rfl (lv_at hl 1 rfl) ?_
  refine lv_iload hx hb dL_law_1075 (lv_at hl 5 rfl) ?_
  refine lv_iconst (v := 3) hx hb dL_law_1077 (by decide) ?_
  refine lv_iadd hx hb dL_law_1078 ?_
  obtain ⟨c10, h⟩ := h
  refine va_sld hx hb hX hbl hbA hw.2.2 (ib_in c10) dL_law_1079 ?_
  refine lv_aload_n hx hb dL_law_1080 rfl (lv_at hl 1 rfl) ?_
  refine lv_iload hx hb dL_law_1081 (lv_at hl 5 rfl) ?_
  refine lv_iconst (v := 4) hx hb dL_law_1083 (by decide) ?_
  refine lv_iadd hx hb dL_law_1084 ?_
  obtain ⟨c11, h⟩ := h
  refine va_sld hx hb hX hbl hbA hw.2.2 (ib_in c11) dL_law_1085 ?_
  refine lv_aload_n hx hb dL_law_1086 rfl (lv_at hl 1 rfl) ?_
  refine lv_iload hx hb dL_law_1087 (lv_at hl 5 rfl) ?_
  refine lv_iconst (v := 5) hx hb dL_law_1089 (by decide) ?_
  refine lv_iadd hx hb dL_law_1090 ?_
  obtain ⟨c12, h⟩ := h
  refine va_sld hx hb hX hbl hbA hw.2.2 (ib_in c12) dL_law_1091 ?_
  obtain ⟨q13, h_q13, h⟩ := h
  refine z_VJ E F hw [.int (xs (Int32.toNatClampNeg (x4 + (1 : Int32)))), .int (xs (Int32.toNatClampNeg (x4 + (2 : Int32)))), .int (xs (Int32.toNatClampNeg (x4 + (3 : Int32)))), .int (xs (Int32.toNatClampNeg (x4 + (4 : Int32)))), .int (xs (Int32.toNatClampNeg (x4 + (5 : Int32))))] (k_X11_price l D cy kc o2 (xs (Int32.toNatClampNeg (x4 + (1 : Int32)))) (xs (Int32.toNatClampNeg (x4 + (2 : Int32)))) (xs (Int32.toNatClampNeg (x4 + (3 : Int32)))) (xs (Int32.toNatClampNeg (x4 + (4 : Int32)))) (xs (Int32.toNatClampNeg (x4 + (5 : Int32)))) S6 h_q13 t_o2) t_o2 cf11 mk_X11_price vk_X11_price ml_L_148 ⟨by decide, by decide⟩ rfl hl.1 rfl (Nat.le_of_ble_eq_true rfl) dL_law_1092 ⟨(by first | omega | (simp only [rmK, room_1]; omega)), (by first | omega | (simp only [rmK, room_1]; omega))⟩ (fun H locs hw hG => ?_)
  have t_o1 := hG.t t_o1
  have t_o2 := hG.t t_o2
  have t_o3 := hG.t t_o3
  have hg := hg.tr hG
  refine lv_lstore (lv' := [(6, .long q13.1), (5, .int r7), (0, .ref b), (1, .ref o1), (2, .ref o2), (3, .ref o3), (4, .int x4)]) hx hb dL_law_1095 hl (by decide) rfl (fun ls hl => ?_)
  refine lv_aload_n hx hb dL_law_1097 rfl (lv_at hl 4 rfl) ?_
  obtain ⟨q14, h_q14, h⟩ := h
  refine z_VI E F hw [] (k_X11_thrown l D cy kc o2 q13.2 h_q14 t_o2) t_o2 cf11 mk_X11_thrown vk_X11_thrown ml_L_102 ⟨by decide, by decide⟩ rfl hl.1 rfl (Nat.le_of_ble_eq_true rfl) dL_law_1098 ⟨(by first | omega | (simp only [rmK, room_1]; omega)), (by first | omega | (simp only [rmK, room_1]; omega))⟩ (fun H locs hw hG => ?_)
  have t_o1 := hG.t t_o1
  have t_o2 := hG.t t_o2
  have t_o3 := hG.t t_o3
  have hg := hg.tr hG
  refine lv_iload hx hb dL_law_1101 (lv_at hl 1 rfl) ?_
  refine lv_icmp_eq (tgt := 1108) hx hb dL_law_1103 (by decide) (fun c15 => ?_) (fun c15 => ?_)
  · replace h := h.1 c15
    refine lv_iload hx hb dL_law_1108 (lv_at hl 1 rfl) ?_
    refine lv_if_ne (tgt := 1124) hx hb dL_law_1110 (by decide) (fun c16 => ?_) (fun c16 => ?_)
    · replace h := h.2 c16
      refine lv_goto (tgt := 2580) hx hb dL_law_1124 (by decide) ?_
      exact W.widen (by first | omega | (simp only [rmK, room_1]; omega)) (by first | omega | (simp only [rmK, room_1]; omega)) (kk q14.2 _ _ _ h hw t_o1 t_o2 t_o3 (lv_sub hl [2, 3, 4, 5, 6] rfl))
    · replace h := h.1 c16
      refine lv_aload_n hx hb dL_law_1113 rfl (lv_at hl 5 rfl) ?_
      refine lv_iconst (v := 0) hx hb dL_law_1114 (by decide) ?_
      obtain ⟨c17, h⟩ := h
      refine a_j E F hw t_o3 c17 dL_law_1115 ?_
      refine lv_lload hx hb dL_law_1116 (lv_at hl 0 rfl) ?_
      refine W.lcmp hx hb dL_law_1118 ?_
      refine lv_if_eq (tgt := 1124) hx hb dL_law_1119 (by decide) (fun c18 => ?_) (fun c18 => ?_)
      · replace h := h.1 c18
        refine lv_goto (tgt := 2580) hx hb dL_law_1124 (by decide) ?_
        exact W.widen (by first | omega | (simp only [rmK, room_1]; omega)) (by first | omega | (simp only [rmK, room_1]; omega)) (kk q14.2 _ _ _ h hw t_o1 t_o2 t_o3 (lv_sub hl [2, 3, 4, 5, 6] rfl))
      · replace h := h.2 c18
        exact h.elim
  · replace h := h.2 c15
    exact h.elim
def gl_14 (L : Nat) (xs : Nat → Int32) (o1 o2 o3 : Nat) (x4 : Int32) (S : PS) (K : PS → Prop) : Prop :=
  (ib (x4 + (1 : Int32)) L = true) ∧ ((ib (x4 + (2 : Int32)) L = true) ∧ ((ib (x4 + (3 : Int32)) L = true) ∧ ((ib (x4 + (4 : Int32)) L = true) ∧ ((ib (x4 + (5 : Int32)) L = true) ∧ ((ib (x4 + (6 : Int32)) L = true) ∧ ((ib (x4 + (7 : Int32)) L = true) ∧ (g_L_gain o1 (xs (Int32.toNatClampNeg (x4 + (1 : Int32)))) (xs (Int32.toNatClampNeg (x4 + (2 : Int32)))) (xs (Int32.toNatClampNeg (x4 + (3 : Int32)))) (xs (Int32.toNatClampNeg (x4 + (4 : Int32)))) (xs (Int32.toNatClampNeg (x4 + (5 : Int32)))) (xs (Int32.toNatClampNeg (x4 + (6 : Int32)))) (xs (Int32.toNatClampNeg (x4 + (7 : Int32)))) o3 S (fun (r9 : Int32) (S8 : PS) => ((ib (x4 + (1 : Int32)) L = true) ∧ ((ib (x4 + (2 : Int32)) L = true) ∧ ((ib (x4 + (3 : Int32)) L = true) ∧ ((ib (x4 + (4 : Int32)) L = true) ∧ ((ib (x4 + (5 : Int32)) L = true) ∧ ((ib (x4 + (6 : Int32)) L = true) ∧ ((ib (x4 + (7 : Int32)) L = true) ∧ (∃ q17, (f_X11_gain o2 (xs (Int32.toNatClampNeg (x4 + (1 : Int32)))) (xs (Int32.toNatClampNeg (x4 + (2 : Int32)))) (xs (Int32.toNatClampNeg (x4 + (3 : Int32)))) (xs (Int32.toNatClampNeg (x4 + (4 : Int32)))) (xs (Int32.toNatClampNeg (x4 + (5 : Int32)))) (xs (Int32.toNatClampNeg (x4 + (6 : Int32)))) (xs (Int32.toNatClampNeg (x4 + (7 : Int32)))) S8) = some q17 ∧ (∃ q18, (f_X11_thrown o2 q17.2) = some q18 ∧ (((q18.1 = r9 → (((r9 = (0 : Int32) → ((ib (0 : Int32) (sN q18.2 o3) = true) ∧ ((((lg_cmp (sJ q18.2 o3 (Int32.toNatClampNeg (0 : Int32))) q17.1) = (0 : Int32) → (K q18.2)) ∧ (¬ (lg_cmp (sJ q18.2 o3 (Int32.toNatClampNeg (0 : Int32))) q17.1) = (0 : Int32) → (False)))))) ∧ (¬ r9 = (0 : Int32) → (K q18.2))))) ∧ (¬ q18.1 = r9 → (False)))))))))))))))))))))
set_option maxHeartbeats 4000000 in
theorem lc_14 {p : Program} {l : Launch} {e : Env} {s : State} {m : MethodId} {args : Array Value} {below : List Frame} {meth : Method} {c : Code} {H : Heap} {locs : List Loc} {ls : Array Slot} {Q : State → Prop} {D : va_G} {cy : Nat → ClassId} {kc : Nat → Nat} {A : Nat → Prop} {b L : Nat} {xs : Nat → Int32} {c0 s0 : Nat} (hst : l.stackTraces = false) (E : CallFix p m c cL_law 8 s args LW RL) (F : Fx D cy kc A s) (hX : va_X b L xs s s.heap) (hbl : b < s.heap.size) (hbA : ¬ A b) (o1 o2 o3 : Nat) (x4 : Int32) (S : PS) {K : PS → Prop} (h : gl_14 L xs o1 o2 o3 x4 S K) (hc : c0 + 30 ≤ 601024) (hs : s0 + 9152 ≤ 7293034) (hw : Wd D cy A s H locs S) (t_o1 : tD S o1 10) (t_o2 : tD S o2 11) (t_o3 : tD S o3 14) (hl : lv_has ls 8 [(0, .ref b), (1, .ref o1), (2, .ref o2), (3, .ref o3), (4, .int x4)])
    (kk : ∀ (S1 : PS) (H : Heap) (locs : List Loc) (ls : Array Slot), K S1 → Wd D cy A s H locs S1 → tD S1 o1 10 → tD S1 o2 11 → tD S1 o3 14 → lv_has ls 8 [(0, .ref b), (1, .ref o1), (2, .ref o2), (3, .ref o3), (4, .int x4)] → W p l e room_1 s m args below meth c H locs (c0 + 30) (s0 + 9152) Q (F0 m 2580 ls [])) : W p l e room_1 s m args below meth c H locs c0 s0 Q (F0 m 1127 ls []) := by
  have hx := E.1
  have hb := E.2.1
  have hg : Gr S S := Gr.rf
  rw [gl_14] at h
  refine lv_aload_n hx hb dL_law_1127 rfl (lv_at hl 1 rfl) ?_
  refine lv_aload_n hx hb dL_law_1128 rfl (lv_at hl 0 rfl) ?_
  refine lv_iload hx hb dL_law_1129 (lv_at hl 4 rfl) ?_
  refine lv_iconst (v := 1) hx hb dL_law_1131 (by decide) ?_
  refine lv_iadd hx hb dL_law_1132 ?_
  obtain ⟨c1, h⟩ := h
  refine va_sld hx hb hX hbl hbA hw.2.2 (ib_in c1) dL_law_1133 ?_
  refine lv_aload_n hx hb dL_law_1134 rfl (lv_at hl 0 rfl) ?_
  refine lv_iload hx hb dL_law_1135 (lv_at hl 4 rfl) ?_
  refine lv_iconst (v := 2) hx hb dL_law_1137 (by decide) ?_
  refine lv_iadd hx hb dL_law_1138 ?_
  obtain ⟨c2, h⟩ := h
  refine va_sld hx hb hX hbl hbA hw.2.2 (ib_in c2) dL_law_1139 ?_
  refine lv_aload_n hx hb dL_law_1140 rfl (lv_at hl 0 rfl) ?_
  refine lv_iload hx hb dL_law_1141 (lv_at hl 4 rfl) ?_
  refine lv_iconst (v := 3) hx hb dL_law_1143 (by decide) ?_
  refine lv_iadd hx hb dL_law_1144 ?_
  obtain ⟨c3, h⟩ := h
  refine va_sld hx hb hX hbl hbA hw.2.2 (ib_in c3) dL_law_1145 ?_
  refine lv_aload_n hx hb dL_law_1146 rfl (lv_at hl 0 rfl) ?_
  refine lv_iload hx hb dL_law_1147 (lv_at hl 4 rfl) ?_
  refine lv_iconst (v := 4) hx hb dL_law_1149 (by decide) ?_
  refine lv_iadd hx hb dL_law_1150 ?_
  obtain ⟨c4, h⟩ := h
  refine va_sld hx hb hX hbl hbA hw.2.2 (ib_in c4) dL_law_1151 ?_
  refine lv_aload_n hx hb dL_law_1152 rfl (lv_at hl 0 rfl) ?_
  refine lv_iload hx hb dL_law_1153 (lv_at hl 4 rfl) ?_
  refine lv_iconst (v := 5) hx hb dL_law_1155 (by decide) ?_
  refine lv_iadd hx hb dL_law_1156 ?_
  obtain ⟨c5, h⟩ := h
  refine va_sld hx hb hX hbl hbA hw.2.2 (ib_in c5) dL_law_1157 ?_
  refine lv_aload_n hx hb dL_law_1158 rfl (lv_at hl 0 rfl) ?_
  refine lv_iload hx hb dL_law_1159 (lv_at hl 4 rfl) ?_
  refine lv_bipush (v := 6) hx hb dL_law_1161 (by decide) ?_
  refine lv_iadd hx hb dL_law_1163 ?_
  obtain ⟨c6, h⟩ := h
  refine va_sld hx hb hX hbl hbA hw.2.2 (ib_in c6) dL_law_1164 ?_
  refine lv_aload_n hx hb dL_law_1165 rfl (lv_at hl 0 rfl) ?_
  refine lv_iload hx hb dL_law_1166 (lv_at hl 4 rfl) ?_
  refine lv_bipush (v := 7) hx hb dL_law_1168 (by decide) ?_
  refine lv_iadd hx hb dL_law_1170 ?_
  obtain ⟨c7, h⟩ := h
  refine va_sld hx hb hX hbl hbA hw.2.2 (ib_in c7) dL_law_1171 ?_
  refine lv_aload_n hx hb dL_law_1172 rfl (lv_at hl 3 rfl) ?_
  refine l_SI E F hw [.ref o1, .int (xs (Int32.toNatClampNeg (x4 + (1 : Int32)))), .int (xs (Int32.toNatClampNeg (x4 + (2 : Int32)))), .int (xs (Int32.toNatClampNeg (x4 + (3 : Int32)))), .int (xs (Int32.toNatClampNeg (x4 + (4 : Int32)))), .int (xs (Int32.toNatClampNeg (x4 + (5 : Int32)))), .int (xs (Int32.toNatClampNeg (x4 + (6 : Int32)))), .int (xs (Int32.toNatClampNeg (x4 + (7 : Int32)))), .ref o3] (k_L_gain l hst D cy kc o1 (xs (Int32.toNatClampNeg (x4 + (1 : Int32)))) (xs (Int32.toNatClampNeg (x4 + (2 : Int32)))) (xs (Int32.toNatClampNeg (x4 + (3 : Int32)))) (xs (Int32.toNatClampNeg (x4 + (4 : Int32)))) (xs (Int32.toNatClampNeg (x4 + (5 : Int32)))) (xs (Int32.toNatClampNeg (x4 + (6 : Int32)))) (xs (Int32.toNatClampNeg (x4 + (7 : Int32)))) o3 S h t_o1 t_o3) lk_L_gain ml_L_149 ⟨by decide, by decide⟩ rfl hl.1 rfl (Nat.le_of_ble_eq_true rfl) dL_law_1173 ⟨(by first | omega | (simp only [rmK, room_1]; omega)), (by first | omega | (simp only [rmK, room_1]; omega))⟩ (fun r9 S8 H locs h hw hG => ?_)
  have t_o1 := hG.t t_o1
  have t_o2 := hG.t t_o2
  have t_o3 := hG.t t_o3
  have hg := hg.tr hG
  refine lv_istore (lv' := [(5, .int r9), (0, .ref b), (1, .ref o1), (2, .ref o2), (3, .ref o3), (4, .int x4)]) hx hb dL_law_1176 hl (by decide) rfl (fun ls hl => ?_)
  refine lv_aload_n hx hb dL_law_1178 rfl (lv_at hl 3 rfl) ?_
  refine lv_aload_n hx hb dL_law_1179 rfl (lv_at hl 1 rfl) ?_
  refine lv_iload hx hb dL_law_1180 (lv_at hl 5 rfl) ?_
  refine lv_iconst (v := 1) hx hb dL_law_1182 (by decide) ?_
  refine lv_iadd hx hb dL_law_1183 ?_
  obtain ⟨c10, h⟩ := h
  refine va_sld hx hb hX hbl hbA hw.2.2 (ib_in c10) dL_law_1184 ?_
  refine lv_aload_n hx hb dL_law_1185 rfl (lv_at hl 1 rfl) ?_
  refine lv_iload hx hb dL_law_1186 (lv_at hl 5 rfl) ?_
  refine lv_iconst (v := 2) hx hb dL_law_1188 (by decide) ?_
  refine lv_iadd hx hb dL_law_1189 ?_
  obtain ⟨c11, h⟩ := h
  refine va_sld hx hb hX hbl hbA hw.2.2 (ib_in c11) dL_law_1190 ?_
  refine lv_aload_n hx hb dL_law_1191 rfl (lv_at hl 1 rfl) ?_
  refine lv_iload hx hb dL_law_1192 (lv_at hl 5 rfl) ?_
  refine lv_iconst (v := 3) hx hb dL_law_1194 (by decide) ?_
  refine lv_iadd hx hb dL_law_1195 ?_
  obtain ⟨c12, h⟩ := h
  refine va_sld hx hb hX hbl hbA hw.2.2 (ib_in c12) dL_law_1196 ?_
  refine lv_aload_n hx hb dL_law_1197 rfl (lv_at hl 1 rfl) ?_
  refine lv_iload hx hb dL_law_1198 (lv_at hl 5 rfl) ?_
  refine lv_iconst (v := 4) hx hb dL_law_1200 (by decide) ?_
  refine lv_iadd hx hb dL_law_1201 ?_
  obtain ⟨c13, h⟩ := h
  refine va_sld hx hb hX hbl hbA hw.2.2 (ib_in c13) dL_law_1202 ?_
  refine lv_aload_n hx hb dL_law_1203 rfl (lv_at hl 1 rfl) ?_
  refine lv_iload hx hb dL_law_1204 (lv_at hl 5 rfl) ?_
  refine lv_iconst (v := 5) hx hb dL_law_1206 (by decide) ?_
  refine lv_iadd hx hb dL_law_1207 ?_
  obtain ⟨c14, h⟩ := h
  refine va_sld hx hb hX hbl hbA hw.2.2 (ib_in c14) dL_law_1208 ?_
  refine lv_aload_n hx hb dL_law_1209 rfl (lv_at hl 1 rfl) ?_
  refine lv_iload hx hb dL_law_1210 (lv_at hl 5 rfl) ?_
  refine lv_bipush (v := 6) hx hb dL_law_1212 (by decide) ?_
  refine lv_iadd hx hb dL_law_1214 ?_
  obtain ⟨c15, h⟩ := h
  refine va_sld hx hb hX hbl hbA hw.2.2 (ib_in c15) dL_law_1215 ?_
  refine lv_aload_n hx hb dL_law_1216 rfl (lv_at hl 1 rfl) ?_
  refine lv_iload hx hb dL_law_1217 (lv_at hl 5 rfl) ?_
  refine lv_bipush (v := 7) hx hb dL_law_1219 (by decide) ?_
  refine lv_iadd hx hb dL_law_1221 ?_
  obtain ⟨c16, h⟩ := h
  refine va_sld hx hb hX hbl hbA hw.2.2 (ib_in c16) dL_law_1222 ?_
  obtain ⟨q17, h_q17, h⟩ := h
  refine z_VJ E F hw [.int (xs (Int32.toNatClampNeg (x4 + (1 : Int32)))), .int (xs (Int32.toNatClampNeg (x4 + (2 : Int32)))), .int (xs (Int32.toNatClampNeg (x4 + (3 : Int32)))), .int (xs (Int32.toNatClampNeg (x4 + (4 : Int32)))), .int (xs (Int32.toNatClampNeg (x4 + (5 : Int32)))), .int (xs (Int32.toNatClampNeg (x4 + (6 : Int32)))), .int (xs (Int32.toNatClampNeg (x4 + (7 : Int32))))] (k_X11_gain l D cy kc o2 (xs (Int32.toNatClampNeg (x4 + (1 : Int32)))) (xs (Int32.toNatClampNeg (x4 + (2 : Int32)))) (xs (Int32.toNatClampNeg (x4 + (3 : Int32)))) (xs (Int32.toNatClampNeg (x4 + (4 : Int32)))) (xs (Int32.toNatClampNeg (x4 + (5 : Int32)))) (xs (Int32.toNatClampNeg (x4 + (6 : Int32)))) (xs (Int32.toNatClampNeg (x4 + (7 : Int32)))) S8 h_q17 t_o2) t_o2 cf11 mk_X11_gain vk_X11_gain ml_L_152 ⟨by decide, by decide⟩ rfl hl.1 rfl (Nat.le_of_ble_eq_true rfl) dL_law_1223 ⟨(by first | omega | (simp only [rmK, room_1]; omega)), (by first | omega | (simp only [rmK, room_1]; omega))⟩ (fun H locs hw hG => ?_)
  have t_o1 := hG.t t_o1
  have t_o2 := hG.t t_o2
  have t_o3 := hG.t t_o3
  have hg := hg.tr hG
  refine lv_lstore (lv' := [(6, .long q17.1), (5, .int r9), (0, .ref b), (1, .ref o1), (2, .ref o2), (3, .ref o3), (4, .int x4)]) hx hb dL_law_1226 hl (by decide) rfl (fun ls hl => ?_)
  refine lv_aload_n hx hb dL_law_1228 rfl (lv_at hl 4 rfl) ?_
  obtain ⟨q18, h_q18, h⟩ := h
  refine z_VI E F hw [] (k_X11_thrown l D cy kc o2 q17.2 h_q18 t_o2) t_o2 cf11 mk_X11_thrown vk_X11_thrown ml_L_102 ⟨by decide, by decide⟩ rfl hl.1 rfl (Nat.le_of_ble_eq_true rfl) dL_law_1229 ⟨(by first | omega | (simp only [rmK, room_1]; omega)), (by first | omega | (simp only [rmK, room_1]; omega))⟩ (fun H locs hw hG => ?_)
  have t_o1 := hG.t t_o1
  have t_o2 := hG.t t_o2
  have t_o3 := hG.t t_o3
  have hg := hg.tr hG
  refine lv_iload hx hb dL_law_1232 (lv_at hl 1 rfl) ?_
  refine lv_icmp_eq (tgt := 1239) hx hb dL_law_1234 (by decide) (fun c19 => ?_) (fun c19 => ?_)
  · replace h := h.1 c19
    refine lv_iload hx hb dL_law_1239 (lv_at hl 1 rfl) ?_
    refine lv_if_ne (tgt := 1255) hx hb dL_law_1241 (by decide) (fun c20 => ?_) (fun c20 => ?_)
    · replace h := h.2 c20
      refine lv_goto (tgt := 2580) hx hb dL_law_1255 (by decide) ?_
      exact W.widen (by first | omega | (simp only [rmK, room_1]; omega)) (by first | omega | (simp only [rmK, room_1]; omega)) (kk q18.2 _ _ _ h hw t_o1 t_o2 t_o3 (lv_sub hl [2, 3, 4, 5, 6] rfl))
    · replace h := h.1 c20
      refine lv_aload_n hx hb dL_law_1244 rfl (lv_at hl 5 rfl) ?_
      refine lv_iconst (v := 0) hx hb dL_law_1245 (by decide) ?_
      obtain ⟨c21, h⟩ := h
      refine a_j E F hw t_o3 c21 dL_law_1246 ?_
      refine lv_lload hx hb dL_law_1247 (lv_at hl 0 rfl) ?_
      refine W.lcmp hx hb dL_law_1249 ?_
      refine lv_if_eq (tgt := 1255) hx hb dL_law_1250 (by decide) (fun c22 => ?_) (fun c22 => ?_)
      · replace h := h.1 c22
        refine lv_goto (tgt := 2580) hx hb dL_law_1255 (by decide) ?_
        exact W.widen (by first | omega | (simp only [rmK, room_1]; omega)) (by first | omega | (simp only [rmK, room_1]; omega)) (kk q18.2 _ _ _ h hw t_o1 t_o2 t_o3 (lv_sub hl [2, 3, 4, 5, 6] rfl))
      · replace h := h.2 c22
        exact h.elim
  · replace h := h.2 c19
    exact h.elim
def gl_15 (L : Nat) (xs : Nat → Int32) (o1 o2 o3 : Nat) (x4 : Int32) (S : PS) (K : PS → Prop) : Prop :=
  (ib (x4 + (1 : Int32)) L = true) ∧ ((ib (x4 + (2 : Int32)) L = true) ∧ ((ib (x4 + (3 : Int32)) L = true) ∧ ((ib (x4 + (4 : Int32)) L = true) ∧ ((ib (x4 + (5 : Int32)) L = true) ∧ ((ib (x4 + (6 : Int32)) L = true) ∧ ((ib (x4 + (7 : Int32)) L = true) ∧ (g_L_lets o1 (xs (Int32.toNatClampNeg (x4 + (1 : Int32)))) (xs (Int32.toNatClampNeg (x4 + (2 : Int32)))) (xs (Int32.toNatClampNeg (x4 + (3 : Int32)))) (xs (Int32.toNatClampNeg (x4 + (4 : Int32)))) (xs (Int32.toNatClampNeg (x4 + (5 : Int32)))) (xs (Int32.toNatClampNeg (x4 + (6 : Int32)))) (xs (Int32.toNatClampNeg (x4 + (7 : Int32)))) o3 S (fun (r9 : Int32) (S8 : PS) => ((ib (x4 + (1 : Int32)) L = true) ∧ ((ib (x4 + (2 : Int32)) L = true) ∧ ((ib (x4 + (3 : Int32)) L = true) ∧ ((ib (x4 + (4 : Int32)) L = true) ∧ ((ib (x4 + (5 : Int32)) L = true) ∧ ((ib (x4 + (6 : Int32)) L = true) ∧ ((ib (x4 + (7 : Int32)) L = true) ∧ (∃ q17, (f_X11_lets o2 (xs (Int32.toNatClampNeg (x4 + (1 : Int32)))) (xs (Int32.toNatClampNeg (x4 + (2 : Int32)))) (xs (Int32.toNatClampNeg (x4 + (3 : Int32)))) (xs (Int32.toNatClampNeg (x4 + (4 : Int32)))) (xs (Int32.toNatClampNeg (x4 + (5 : Int32)))) (xs (Int32.toNatClampNeg (x4 + (6 : Int32)))) (xs (Int32.toNatClampNeg (x4 + (7 : Int32)))) S8) = some q17 ∧ (∃ q18, (f_X11_thrown o2 q17.2) = some q18 ∧ (((q18.1 = r9 → (((r9 = (0 : Int32) → ((ib (0 : Int32) (sN q18.2 o3) = true) ∧ ((((lg_cmp (sJ q18.2 o3 (Int32.toNatClampNeg (0 : Int32))) q17.1) = (0 : Int32) → (K q18.2)) ∧ (¬ (lg_cmp (sJ q18.2 o3 (Int32.toNatClampNeg (0 : Int32))) q17.1) = (0 : Int32) → (False)))))) ∧ (¬ r9 = (0 : Int32) → (K q18.2))))) ∧ (¬ q18.1 = r9 → (False)))))))))))))))))))))
set_option maxHeartbeats 4000000 in
theorem lc_15 {p : Program} {l : Launch} {e : Env} {s : State} {m : MethodId} {args : Array Value} {below : List Frame} {meth : Method} {c : Code} {H : Heap} {locs : List Loc} {ls : Array Slot} {Q : State → Prop} {D : va_G} {cy : Nat → ClassId} {kc : Nat → Nat} {A : Nat → Prop} {b L : Nat} {xs : Nat → Int32} {c0 s0 : Nat} (hst : l.stackTraces = false) (E : CallFix p m c cL_law 8 s args LW RL) (F : Fx D cy kc A s) (hX : va_X b L xs s s.heap) (hbl : b < s.heap.size) (hbA : ¬ A b) (o1 o2 o3 : Nat) (x4 : Int32) (S : PS) {K : PS → Prop} (h : gl_15 L xs o1 o2 o3 x4 S K) (hc : c0 + 30 ≤ 601024) (hs : s0 + 9152 ≤ 7293034) (hw : Wd D cy A s H locs S) (t_o1 : tD S o1 10) (t_o2 : tD S o2 11) (t_o3 : tD S o3 14) (hl : lv_has ls 8 [(0, .ref b), (1, .ref o1), (2, .ref o2), (3, .ref o3), (4, .int x4)])
    (kk : ∀ (S1 : PS) (H : Heap) (locs : List Loc) (ls : Array Slot), K S1 → Wd D cy A s H locs S1 → tD S1 o1 10 → tD S1 o2 11 → tD S1 o3 14 → lv_has ls 8 [(0, .ref b), (1, .ref o1), (2, .ref o2), (3, .ref o3), (4, .int x4)] → W p l e room_1 s m args below meth c H locs (c0 + 30) (s0 + 9152) Q (F0 m 2580 ls [])) : W p l e room_1 s m args below meth c H locs c0 s0 Q (F0 m 1258 ls []) := by
  have hx := E.1
  have hb := E.2.1
  have hg : Gr S S := Gr.rf
  rw [gl_15] at h
  refine lv_aload_n hx hb dL_law_1258 rfl (lv_at hl 1 rfl) ?_
  refine lv_aload_n hx hb dL_law_1259 rfl (lv_at hl 0 rfl) ?_
  refine lv_iload hx hb dL_law_1260 (lv_at hl 4 rfl) ?_
  refine lv_iconst (v := 1) hx hb dL_law_1262 (by decide) ?_
  refine lv_iadd hx hb dL_law_1263 ?_
  obtain ⟨c1, h⟩ := h
  refine va_sld hx hb hX hbl hbA hw.2.2 (ib_in c1) dL_law_1264 ?_
  refine lv_aload_n hx hb dL_law_1265 rfl (lv_at hl 0 rfl) ?_
  refine lv_iload hx hb dL_law_1266 (lv_at hl 4 rfl) ?_
  refine lv_iconst (v := 2) hx hb dL_law_1268 (by decide) ?_
  refine lv_iadd hx hb dL_law_1269 ?_
  obtain ⟨c2, h⟩ := h
  refine va_sld hx hb hX hbl hbA hw.2.2 (ib_in c2) dL_law_1270 ?_
  refine lv_aload_n hx hb dL_law_1271 rfl (lv_at hl 0 rfl) ?_
  refine lv_iload hx hb dL_law_1272 (lv_at hl 4 rfl) ?_
  refine lv_iconst (v := 3) hx hb dL_law_1274 (by decide) ?_
  refine lv_iadd hx hb dL_law_1275 ?_
  obtain ⟨c3, h⟩ := h
  refine va_sld hx hb hX hbl hbA hw.2.2 (ib_in c3) dL_law_1276 ?_
  refine lv_aload_n hx hb dL_law_1277 rfl (lv_at hl 0 rfl) ?_
  refine lv_iload hx hb dL_law_1278 (lv_at hl 4 rfl) ?_
  refine lv_iconst (v := 4) hx hb dL_law_1280 (by decide) ?_
  refine lv_iadd hx hb dL_law_1281 ?_
  obtain ⟨c4, h⟩ := h
  refine va_sld hx hb hX hbl hbA hw.2.2 (ib_in c4) dL_law_1282 ?_
  refine lv_aload_n hx hb dL_law_1283 rfl (lv_at hl 0 rfl) ?_
  refine lv_iload hx hb dL_law_1284 (lv_at hl 4 rfl) ?_
  refine lv_iconst (v := 5) hx hb dL_law_1286 (by decide) ?_
  refine lv_iadd hx hb dL_law_1287 ?_
  obtain ⟨c5, h⟩ := h
  refine va_sld hx hb hX hbl hbA hw.2.2 (ib_in c5) dL_law_1288 ?_
  refine lv_aload_n hx hb dL_law_1289 rfl (lv_at hl 0 rfl) ?_
  refine lv_iload hx hb dL_law_1290 (lv_at hl 4 rfl) ?_
  refine lv_bipush (v := 6) hx hb dL_law_1292 (by decide) ?_
  refine lv_iadd hx hb dL_law_1294 ?_
  obtain ⟨c6, h⟩ := h
  refine va_sld hx hb hX hbl hbA hw.2.2 (ib_in c6) dL_law_1295 ?_
  refine lv_aload_n hx hb dL_law_1296 rfl (lv_at hl 0 rfl) ?_
  refine lv_iload hx hb dL_law_1297 (lv_at hl 4 rfl) ?_
  refine lv_bipush (v := 7) hx hb dL_law_1299 (by decide) ?_
  refine lv_iadd hx hb dL_law_1301 ?_
  obtain ⟨c7, h⟩ := h
  refine va_sld hx hb hX hbl hbA hw.2.2 (ib_in c7) dL_law_1302 ?_
  refine lv_aload_n hx hb dL_law_1303 rfl (lv_at hl 3 rfl) ?_
  refine l_SI E F hw [.ref o1, .int (xs (Int32.toNatClampNeg (x4 + (1 : Int32)))), .int (xs (Int32.toNatClampNeg (x4 + (2 : Int32)))), .int (xs (Int32.toNatClampNeg (x4 + (3 : Int32)))), .int (xs (Int32.toNatClampNeg (x4 + (4 : Int32)))), .int (xs (Int32.toNatClampNeg (x4 + (5 : Int32)))), .int (xs (Int32.toNatClampNeg (x4 + (6 : Int32)))), .int (xs (Int32.toNatClampNeg (x4 + (7 : Int32)))), .ref o3] (k_L_lets l hst D cy kc o1 (xs (Int32.toNatClampNeg (x4 + (1 : Int32)))) (xs (Int32.toNatClampNeg (x4 + (2 : Int32)))) (xs (Int32.toNatClampNeg (x4 + (3 : Int32)))) (xs (Int32.toNatClampNeg (x4 + (4 : Int32)))) (xs (Int32.toNatClampNeg (x4 + (5 : Int32)))) (xs (Int32.toNatClampNeg (x4 + (6 : Int32)))) (xs (Int32.toNatClampNeg (x4 + (7 : Int32)))) o3 S h t_o1 t_o3) lk_L_lets ml_L_153 ⟨by decide, by decide⟩ rfl hl.1 rfl (Nat.le_of_ble_eq_true rfl) dL_law_1304 ⟨(by first | omega | (simp only [rmK, room_1]; omega)), (by first | omega | (simp only [rmK, room_1]; omega))⟩ (fun r9 S8 H locs h hw hG => ?_)
  have t_o1 := hG.t t_o1
  have t_o2 := hG.t t_o2
  have t_o3 := hG.t t_o3
  have hg := hg.tr hG
  refine lv_istore (lv' := [(5, .int r9), (0, .ref b), (1, .ref o1), (2, .ref o2), (3, .ref o3), (4, .int x4)]) hx hb dL_law_1307 hl (by decide) rfl (fun ls hl => ?_)
  refine lv_aload_n hx hb dL_law_1309 rfl (lv_at hl 3 rfl) ?_
  refine lv_aload_n hx hb dL_law_1310 rfl (lv_at hl 1 rfl) ?_
  refine lv_iload hx hb dL_law_1311 (lv_at hl 5 rfl) ?_
  refine lv_iconst (v := 1) hx hb dL_law_1313 (by decide) ?_
  refine lv_iadd hx hb dL_law_1314 ?_
  obtain ⟨c10, h⟩ := h
  refine va_sld hx hb hX hbl hbA hw.2.2 (ib_in c10) dL_law_1315 ?_
  refine lv_aload_n hx hb dL_law_1316 rfl (lv_at hl 1 rfl) ?_
  refine lv_iload hx hb dL_law_1317 (lv_at hl 5 rfl) ?_
  refine lv_iconst (v := 2) hx hb dL_law_1319 (by decide) ?_
  refine lv_iadd hx hb dL_law_1320 ?_
  obtain ⟨c11, h⟩ := h
  refine va_sld hx hb hX hbl hbA hw.2.2 (ib_in c11) dL_law_1321 ?_
  refine lv_aload_n hx hb dL_law_1322 rfl (lv_at hl 1 rfl) ?_
  refine lv_iload hx hb dL_law_1323 (lv_at hl 5 rfl) ?_
  refine lv_iconst (v := 3) hx hb dL_law_1325 (by decide) ?_
  refine lv_iadd hx hb dL_law_1326 ?_
  obtain ⟨c12, h⟩ := h
  refine va_sld hx hb hX hbl hbA hw.2.2 (ib_in c12) dL_law_1327 ?_
  refine lv_aload_n hx hb dL_law_1328 rfl (lv_at hl 1 rfl) ?_
  refine lv_iload hx hb dL_law_1329 (lv_at hl 5 rfl) ?_
  refine lv_iconst (v := 4) hx hb dL_law_1331 (by decide) ?_
  refine lv_iadd hx hb dL_law_1332 ?_
  obtain ⟨c13, h⟩ := h
  refine va_sld hx hb hX hbl hbA hw.2.2 (ib_in c13) dL_law_1333 ?_
  refine lv_aload_n hx hb dL_law_1334 rfl (lv_at hl 1 rfl) ?_
  refine lv_iload hx hb dL_law_1335 (lv_at hl 5 rfl) ?_
  refine lv_iconst (v := 5) hx hb dL_law_1337 (by decide) ?_
  refine lv_iadd hx hb dL_law_1338 ?_
  obtain ⟨c14, h⟩ := h
  refine va_sld hx hb hX hbl hbA hw.2.2 (ib_in c14) dL_law_1339 ?_
  refine lv_aload_n hx hb dL_law_1340 rfl (lv_at hl 1 rfl) ?_
  refine lv_iload hx hb dL_law_1341 (lv_at hl 5 rfl) ?_
  refine lv_bipush (v := 6) hx hb dL_law_1343 (by decide) ?_
  refine lv_iadd hx hb dL_law_1345 ?_
  obtain ⟨c15, h⟩ := h
  refine va_sld hx hb hX hbl hbA hw.2.2 (ib_in c15) dL_law_1346 ?_
  refine lv_aload_n hx hb dL_law_1347 rfl (lv_at hl 1 rfl) ?_
  refine lv_iload hx hb dL_law_1348 (lv_at hl 5 rfl) ?_
  refine lv_bipush (v := 7) hx hb dL_law_1350 (by decide) ?_
  refine lv_iadd hx hb dL_law_1352 ?_
  obtain ⟨c16, h⟩ := h
  refine va_sld hx hb hX hbl hbA hw.2.2 (ib_in c16) dL_law_1353 ?_
  obtain ⟨q17, h_q17, h⟩ := h
  refine z_VJ E F hw [.int (xs (Int32.toNatClampNeg (x4 + (1 : Int32)))), .int (xs (Int32.toNatClampNeg (x4 + (2 : Int32)))), .int (xs (Int32.toNatClampNeg (x4 + (3 : Int32)))), .int (xs (Int32.toNatClampNeg (x4 + (4 : Int32)))), .int (xs (Int32.toNatClampNeg (x4 + (5 : Int32)))), .int (xs (Int32.toNatClampNeg (x4 + (6 : Int32)))), .int (xs (Int32.toNatClampNeg (x4 + (7 : Int32))))] (k_X11_lets l D cy kc o2 (xs (Int32.toNatClampNeg (x4 + (1 : Int32)))) (xs (Int32.toNatClampNeg (x4 + (2 : Int32)))) (xs (Int32.toNatClampNeg (x4 + (3 : Int32)))) (xs (Int32.toNatClampNeg (x4 + (4 : Int32)))) (xs (Int32.toNatClampNeg (x4 + (5 : Int32)))) (xs (Int32.toNatClampNeg (x4 + (6 : Int32)))) (xs (Int32.toNatClampNeg (x4 + (7 : Int32)))) S8 h_q17 t_o2) t_o2 cf11 mk_X11_lets vk_X11_lets ml_L_155 ⟨by decide, by decide⟩ rfl hl.1 rfl (Nat.le_of_ble_eq_true rfl) dL_law_1354 ⟨(by first | omega | (simp only [rmK, room_1]; omega)), (by first | omega | (simp only [rmK, room_1]; omega))⟩ (fun H locs hw hG => ?_)
  have t_o1 := hG.t t_o1
  have t_o2 := hG.t t_o2
  have t_o3 := hG.t t_o3
  have hg := hg.tr hG
  refine lv_lstore (lv' := [(6, .long q17.1), (5, .int r9), (0, .ref b), (1, .ref o1), (2, .ref o2), (3, .ref o3), (4, .int x4)]) hx hb dL_law_1357 hl (by decide) rfl (fun ls hl => ?_)
  refine lv_aload_n hx hb dL_law_1359 rfl (lv_at hl 4 rfl) ?_
  obtain ⟨q18, h_q18, h⟩ := h
  refine z_VI E F hw [] (k_X11_thrown l D cy kc o2 q17.2 h_q18 t_o2) t_o2 cf11 mk_X11_thrown vk_X11_thrown ml_L_102 ⟨by decide, by decide⟩ rfl hl.1 rfl (Nat.le_of_ble_eq_true rfl) dL_law_1360 ⟨(by first | omega | (simp only [rmK, room_1]; omega)), (by first | omega | (simp only [rmK, room_1]; omega))⟩ (fun H locs hw hG => ?_)
  have t_o1 := hG.t t_o1
  have t_o2 := hG.t t_o2
  have t_o3 := hG.t t_o3
  have hg := hg.tr hG
  refine lv_iload hx hb dL_law_1363 (lv_at hl 1 rfl) ?_
  refine lv_icmp_eq (tgt := 1370) hx hb dL_law_1365 (by decide) (fun c19 => ?_) (fun c19 => ?_)
  · replace h := h.1 c19
    refine lv_iload hx hb dL_law_1370 (lv_at hl 1 rfl) ?_
    refine lv_if_ne (tgt := 1386) hx hb dL_law_1372 (by decide) (fun c20 => ?_) (fun c20 => ?_)
    · replace h := h.2 c20
      refine lv_goto (tgt := 2580) hx hb dL_law_1386 (by decide) ?_
      exact W.widen (by first | omega | (simp only [rmK, room_1]; omega)) (by first | omega | (simp only [rmK, room_1]; omega)) (kk q18.2 _ _ _ h hw t_o1 t_o2 t_o3 (lv_sub hl [2, 3, 4, 5, 6] rfl))
    · replace h := h.1 c20
      refine lv_aload_n hx hb dL_law_1375 rfl (lv_at hl 5 rfl) ?_
      refine lv_iconst (v := 0) hx hb dL_law_1376 (by decide) ?_
      obtain ⟨c21, h⟩ := h
      refine a_j E F hw t_o3 c21 dL_law_1377 ?_
      refine lv_lload hx hb dL_law_1378 (lv_at hl 0 rfl) ?_
      refine W.lcmp hx hb dL_law_1380 ?_
      refine lv_if_eq (tgt := 1386) hx hb dL_law_1381 (by decide) (fun c22 => ?_) (fun c22 => ?_)
      · replace h := h.1 c22
        refine lv_goto (tgt := 2580) hx hb dL_law_1386 (by decide) ?_
        exact W.widen (by first | omega | (simp only [rmK, room_1]; omega)) (by first | omega | (simp only [rmK, room_1]; omega)) (kk q18.2 _ _ _ h hw t_o1 t_o2 t_o3 (lv_sub hl [2, 3, 4, 5, 6] rfl))
      · replace h := h.2 c22
        exact h.elim
  · replace h := h.2 c19
    exact h.elim
def gl_16 (L : Nat) (xs : Nat → Int32) (o1 o2 o3 : Nat) (x4 : Int32) (S : PS) (K : PS → Prop) : Prop :=
  (ib (x4 + (1 : Int32)) L = true) ∧ ((ib (x4 + (2 : Int32)) L = true) ∧ ((ib (x4 + (3 : Int32)) L = true) ∧ ((ib (x4 + (4 : Int32)) L = true) ∧ (g_L_present o1 (xs (Int32.toNatClampNeg (x4 + (1 : Int32)))) (xs (Int32.toNatClampNeg (x4 + (2 : Int32)))) (xs (Int32.toNatClampNeg (x4 + (3 : Int32)))) (xs (Int32.toNatClampNeg (x4 + (4 : Int32)))) o3 S (fun (r6 : Int32) (S5 : PS) => ((ib (x4 + (1 : Int32)) L = true) ∧ ((ib (x4 + (2 : Int32)) L = true) ∧ ((ib (x4 + (3 : Int32)) L = true) ∧ ((ib (x4 + (4 : Int32)) L = true) ∧ (∃ q11, (f_X11_present o2 (xs (Int32.toNatClampNeg (x4 + (1 : Int32)))) (xs (Int32.toNatClampNeg (x4 + (2 : Int32)))) (xs (Int32.toNatClampNeg (x4 + (3 : Int32)))) (xs (Int32.toNatClampNeg (x4 + (4 : Int32)))) S5) = some q11 ∧ (∃ q12, (f_X11_thrown o2 q11.2) = some q12 ∧ (((q12.1 = r6 → (((r6 = (0 : Int32) → ((ib (0 : Int32) (sN q12.2 o3) = true) ∧ ((((lg_cmp (sJ q12.2 o3 (Int32.toNatClampNeg (0 : Int32))) q11.1) = (0 : Int32) → (K q12.2)) ∧ (¬ (lg_cmp (sJ q12.2 o3 (Int32.toNatClampNeg (0 : Int32))) q11.1) = (0 : Int32) → (False)))))) ∧ (¬ r6 = (0 : Int32) → (K q12.2))))) ∧ (¬ q12.1 = r6 → (False)))))))))))))))
set_option maxHeartbeats 4000000 in
theorem lc_16 {p : Program} {l : Launch} {e : Env} {s : State} {m : MethodId} {args : Array Value} {below : List Frame} {meth : Method} {c : Code} {H : Heap} {locs : List Loc} {ls : Array Slot} {Q : State → Prop} {D : va_G} {cy : Nat → ClassId} {kc : Nat → Nat} {A : Nat → Prop} {b L : Nat} {xs : Nat → Int32} {c0 s0 : Nat} (hst : l.stackTraces = false) (E : CallFix p m c cL_law 8 s args LW RL) (F : Fx D cy kc A s) (hX : va_X b L xs s s.heap) (hbl : b < s.heap.size) (hbA : ¬ A b) (o1 o2 o3 : Nat) (x4 : Int32) (S : PS) {K : PS → Prop} (h : gl_16 L xs o1 o2 o3 x4 S K) (hc : c0 + 30 ≤ 601024) (hs : s0 + 9152 ≤ 7293034) (hw : Wd D cy A s H locs S) (t_o1 : tD S o1 10) (t_o2 : tD S o2 11) (t_o3 : tD S o3 14) (hl : lv_has ls 8 [(0, .ref b), (1, .ref o1), (2, .ref o2), (3, .ref o3), (4, .int x4)])
    (kk : ∀ (S1 : PS) (H : Heap) (locs : List Loc) (ls : Array Slot), K S1 → Wd D cy A s H locs S1 → tD S1 o1 10 → tD S1 o2 11 → tD S1 o3 14 → lv_has ls 8 [(0, .ref b), (1, .ref o1), (2, .ref o2), (3, .ref o3), (4, .int x4)] → W p l e room_1 s m args below meth c H locs (c0 + 30) (s0 + 9152) Q (F0 m 2580 ls [])) : W p l e room_1 s m args below meth c H locs c0 s0 Q (F0 m 1389 ls []) := by
  have hx := E.1
  have hb := E.2.1
  have hg : Gr S S := Gr.rf
  rw [gl_16] at h
  refine lv_aload_n hx hb dL_law_1389 rfl (lv_at hl 1 rfl) ?_
  refine lv_aload_n hx hb dL_law_1390 rfl (lv_at hl 0 rfl) ?_
  refine lv_iload hx hb dL_law_1391 (lv_at hl 4 rfl) ?_
  refine lv_iconst (v := 1) hx hb dL_law_1393 (by decide) ?_
  refine lv_iadd hx hb dL_law_1394 ?_
  obtain ⟨c1, h⟩ := h
  refine va_sld hx hb hX hbl hbA hw.2.2 (ib_in c1) dL_law_1395 ?_
  refine lv_aload_n hx hb dL_law_1396 rfl (lv_at hl 0 rfl) ?_
  refine lv_iload hx hb dL_law_1397 (lv_at hl 4 rfl) ?_
  refine lv_iconst (v := 2) hx hb dL_law_1399 (by decide) ?_
  refine lv_iadd hx hb dL_law_1400 ?_
  obtain ⟨c2, h⟩ := h
  refine va_sld hx hb hX hbl hbA hw.2.2 (ib_in c2) dL_law_1401 ?_
  refine lv_aload_n hx hb dL_law_1402 rfl (lv_at hl 0 rfl) ?_
  refine lv_iload hx hb dL_law_1403 (lv_at hl 4 rfl) ?_
  refine lv_iconst (v := 3) hx hb dL_law_1405 (by decide) ?_
  refine lv_iadd hx hb dL_law_1406 ?_
  obtain ⟨c3, h⟩ := h
  refine va_sld hx hb hX hbl hbA hw.2.2 (ib_in c3) dL_law_1407 ?_
  refine lv_aload_n hx hb dL_law_1408 rfl (lv_at hl 0 rfl) ?_
  refine lv_iload hx hb dL_law_1409 (lv_at hl 4 rfl) ?_
  refine lv_iconst (v := 4) hx hb dL_law_1411 (by decide) ?_
  refine lv_iadd hx hb dL_law_1412 ?_
  obtain ⟨c4, h⟩ := h
  refine va_sld hx hb hX hbl hbA hw.2.2 (ib_in c4) dL_law_1413 ?_
  refine lv_aload_n hx hb dL_law_1414 rfl (lv_at hl 3 rfl) ?_
  refine l_SI E F hw [.ref o1, .int (xs (Int32.toNatClampNeg (x4 + (1 : Int32)))), .int (xs (Int32.toNatClampNeg (x4 + (2 : Int32)))), .int (xs (Int32.toNatClampNeg (x4 + (3 : Int32)))), .int (xs (Int32.toNatClampNeg (x4 + (4 : Int32)))), .ref o3] (k_L_present l hst D cy kc o1 (xs (Int32.toNatClampNeg (x4 + (1 : Int32)))) (xs (Int32.toNatClampNeg (x4 + (2 : Int32)))) (xs (Int32.toNatClampNeg (x4 + (3 : Int32)))) (xs (Int32.toNatClampNeg (x4 + (4 : Int32)))) o3 S h t_o1 t_o3) lk_L_present ml_L_156 ⟨by decide, by decide⟩ rfl hl.1 rfl (Nat.le_of_ble_eq_true rfl) dL_law_1415 ⟨(by first | omega | (simp only [rmK, room_1]; omega)), (by first | omega | (simp only [rmK, room_1]; omega))⟩ (fun r6 S5 H locs h hw hG => ?_)
  have t_o1 := hG.t t_o1
  have t_o2 := hG.t t_o2
  have t_o3 := hG.t t_o3
  have hg := hg.tr hG
  refine lv_istore (lv' := [(5, .int r6), (0, .ref b), (1, .ref o1), (2, .ref o2), (3, .ref o3), (4, .int x4)]) hx hb dL_law_1418 hl (by decide) rfl (fun ls hl => ?_)
  refine lv_aload_n hx hb dL_law_1420 rfl (lv_at hl 3 rfl) ?_
  refine lv_aload_n hx hb dL_law_1421 rfl (lv_at hl 1 rfl) ?_
  refine lv_iload hx hb dL_law_1422 (lv_at hl 5 rfl) ?_
  refine lv_iconst (v := 1) hx hb dL_law_1424 (by decide) ?_
  refine lv_iadd hx hb dL_law_1425 ?_
  obtain ⟨c7, h⟩ := h
  refine va_sld hx hb hX hbl hbA hw.2.2 (ib_in c7) dL_law_1426 ?_
  refine lv_aload_n hx hb dL_law_1427 rfl (lv_at hl 1 rfl) ?_
  refine lv_iload hx hb dL_law_1428 (lv_at hl 5 rfl) ?_
  refine lv_iconst (v := 2) hx hb dL_law_1430 (by decide) ?_
  refine lv_iadd hx hb dL_law_1431 ?_
  obtain ⟨c8, h⟩ := h
  refine va_sld hx hb hX hbl hbA hw.2.2 (ib_in c8) dL_law_1432 ?_
  refine lv_aload_n hx hb dL_law_1433 rfl (lv_at hl 1 rfl) ?_
  refine lv_iload hx hb dL_law_1434 (lv_at hl 5 rfl) ?_
  refine lv_iconst (v := 3) hx hb dL_law_1436 (by decide) ?_
  refine lv_iadd hx hb dL_law_1437 ?_
  obtain ⟨c9, h⟩ := h
  refine va_sld hx hb hX hbl hbA hw.2.2 (ib_in c9) dL_law_1438 ?_
  refine lv_aload_n hx hb dL_law_1439 rfl (lv_at hl 1 rfl) ?_
  refine lv_iload hx hb dL_law_1440 (lv_at hl 5 rfl) ?_
  refine lv_iconst (v := 4) hx hb dL_law_1442 (by decide) ?_
  refine lv_iadd hx hb dL_law_1443 ?_
  obtain ⟨c10, h⟩ := h
  refine va_sld hx hb hX hbl hbA hw.2.2 (ib_in c10) dL_law_1444 ?_
  obtain ⟨q11, h_q11, h⟩ := h
  refine z_VJ E F hw [.int (xs (Int32.toNatClampNeg (x4 + (1 : Int32)))), .int (xs (Int32.toNatClampNeg (x4 + (2 : Int32)))), .int (xs (Int32.toNatClampNeg (x4 + (3 : Int32)))), .int (xs (Int32.toNatClampNeg (x4 + (4 : Int32))))] (k_X11_present l D cy kc o2 (xs (Int32.toNatClampNeg (x4 + (1 : Int32)))) (xs (Int32.toNatClampNeg (x4 + (2 : Int32)))) (xs (Int32.toNatClampNeg (x4 + (3 : Int32)))) (xs (Int32.toNatClampNeg (x4 + (4 : Int32)))) S5 h_q11 t_o2) t_o2 cf11 mk_X11_present vk_X11_present ml_L_158 ⟨by decide, by decide⟩ rfl hl.1 rfl (Nat.le_of_ble_eq_true rfl) dL_law_1445 ⟨(by first | omega | (simp only [rmK, room_1]; omega)), (by first | omega | (simp only [rmK, room_1]; omega))⟩ (fun H locs hw hG => ?_)
  have t_o1 := hG.t t_o1
  have t_o2 := hG.t t_o2
  have t_o3 := hG.t t_o3
  have hg := hg.tr hG
  refine lv_lstore (lv' := [(6, .long q11.1), (5, .int r6), (0, .ref b), (1, .ref o1), (2, .ref o2), (3, .ref o3), (4, .int x4)]) hx hb dL_law_1448 hl (by decide) rfl (fun ls hl => ?_)
  refine lv_aload_n hx hb dL_law_1450 rfl (lv_at hl 4 rfl) ?_
  obtain ⟨q12, h_q12, h⟩ := h
  refine z_VI E F hw [] (k_X11_thrown l D cy kc o2 q11.2 h_q12 t_o2) t_o2 cf11 mk_X11_thrown vk_X11_thrown ml_L_102 ⟨by decide, by decide⟩ rfl hl.1 rfl (Nat.le_of_ble_eq_true rfl) dL_law_1451 ⟨(by first | omega | (simp only [rmK, room_1]; omega)), (by first | omega | (simp only [rmK, room_1]; omega))⟩ (fun H locs hw hG => ?_)
  have t_o1 := hG.t t_o1
  have t_o2 := hG.t t_o2
  have t_o3 := hG.t t_o3
  have hg := hg.tr hG
  refine lv_iload hx hb dL_law_1454 (lv_at hl 1 rfl) ?_
  refine lv_icmp_eq (tgt := 1461) hx hb dL_law_1456 (by decide) (fun c13 => ?_) (fun c13 => ?_)
  · replace h := h.1 c13
    refine lv_iload hx hb dL_law_1461 (lv_at hl 1 rfl) ?_
    refine lv_if_ne (tgt := 1477) hx hb dL_law_1463 (by decide) (fun c14 => ?_) (fun c14 => ?_)
    · replace h := h.2 c14
      refine lv_goto (tgt := 2580) hx hb dL_law_1477 (by decide) ?_
      exact W.widen (by first | omega | (simp only [rmK, room_1]; omega)) (by first | omega | (simp only [rmK, room_1]; omega)) (kk q12.2 _ _ _ h hw t_o1 t_o2 t_o3 (lv_sub hl [2, 3, 4, 5, 6] rfl))
    · replace h := h.1 c14
      refine lv_aload_n hx hb dL_law_1466 rfl (lv_at hl 5 rfl) ?_
      refine lv_iconst (v := 0) hx hb dL_law_1467 (by decide) ?_
      obtain ⟨c15, h⟩ := h
      refine a_j E F hw t_o3 c15 dL_law_1468 ?_
      refine lv_lload hx hb dL_law_1469 (lv_at hl 0 rfl) ?_
      refine W.lcmp hx hb dL_law_1471 ?_
      refine lv_if_eq (tgt := 1477) hx hb dL_law_1472 (by decide) (fun c16 => ?_) (fun c16 => ?_)
      · replace h := h.1 c16
        refine lv_goto (tgt := 2580) hx hb dL_law_1477 (by decide) ?_
        exact W.widen (by first | omega | (simp only [rmK, room_1]; omega)) (by first | omega | (simp only [rmK, room_1]; omega)) (kk q12.2 _ _ _ h hw t_o1 t_o2 t_o3 (lv_sub hl [2, 3, 4, 5, 6] rfl))
      · replace h := h.2 c16
        exact h.elim
  · replace h := h.2 c13
    exact h.elim
def gl_17 (L : Nat) (xs : Nat → Int32) (o1 o2 o3 : Nat) (x4 : Int32) (S : PS) (K : PS → Prop) : Prop :=
  (ib (x4 + (1 : Int32)) L = true) ∧ ((ib (x4 + (2 : Int32)) L = true) ∧ ((ib (x4 + (3 : Int32)) L = true) ∧ (g_L_hopes o1 (xs (Int32.toNatClampNeg (x4 + (1 : Int32)))) (xs (Int32.toNatClampNeg (x4 + (2 : Int32)))) (xs (Int32.toNatClampNeg (x4 + (3 : Int32)))) o3 S (fun (r5 : Int32) (S4 : PS) => ((ib (x4 + (1 : Int32)) L = true) ∧ ((ib (x4 + (2 : Int32)) L = true) ∧ ((ib (x4 + (3 : Int32)) L = true) ∧ (∃ q9, (f_X11_hopes o2 (xs (Int32.toNatClampNeg (x4 + (1 : Int32)))) (xs (Int32.toNatClampNeg (x4 + (2 : Int32)))) (xs (Int32.toNatClampNeg (x4 + (3 : Int32)))) S4) = some q9 ∧ (∃ q10, (f_X11_thrown o2 q9.2) = some q10 ∧ (((q10.1 = r5 → (((r5 = (0 : Int32) → ((ib (0 : Int32) (sN q10.2 o3) = true) ∧ ((((lg_cmp (sJ q10.2 o3 (Int32.toNatClampNeg (0 : Int32))) q9.1) = (0 : Int32) → (K q10.2)) ∧ (¬ (lg_cmp (sJ q10.2 o3 (Int32.toNatClampNeg (0 : Int32))) q9.1) = (0 : Int32) → (False)))))) ∧ (¬ r5 = (0 : Int32) → (K q10.2))))) ∧ (¬ q10.1 = r5 → (False)))))))))))))
set_option maxHeartbeats 4000000 in
theorem lc_17 {p : Program} {l : Launch} {e : Env} {s : State} {m : MethodId} {args : Array Value} {below : List Frame} {meth : Method} {c : Code} {H : Heap} {locs : List Loc} {ls : Array Slot} {Q : State → Prop} {D : va_G} {cy : Nat → ClassId} {kc : Nat → Nat} {A : Nat → Prop} {b L : Nat} {xs : Nat → Int32} {c0 s0 : Nat} (hst : l.stackTraces = false) (E : CallFix p m c cL_law 8 s args LW RL) (F : Fx D cy kc A s) (hX : va_X b L xs s s.heap) (hbl : b < s.heap.size) (hbA : ¬ A b) (o1 o2 o3 : Nat) (x4 : Int32) (S : PS) {K : PS → Prop} (h : gl_17 L xs o1 o2 o3 x4 S K) (hc : c0 + 30 ≤ 601024) (hs : s0 + 9152 ≤ 7293034) (hw : Wd D cy A s H locs S) (t_o1 : tD S o1 10) (t_o2 : tD S o2 11) (t_o3 : tD S o3 14) (hl : lv_has ls 8 [(0, .ref b), (1, .ref o1), (2, .ref o2), (3, .ref o3), (4, .int x4)])
    (kk : ∀ (S1 : PS) (H : Heap) (locs : List Loc) (ls : Array Slot), K S1 → Wd D cy A s H locs S1 → tD S1 o1 10 → tD S1 o2 11 → tD S1 o3 14 → lv_has ls 8 [(0, .ref b), (1, .ref o1), (2, .ref o2), (3, .ref o3), (4, .int x4)] → W p l e room_1 s m args below meth c H locs (c0 + 30) (s0 + 9152) Q (F0 m 2580 ls [])) : W p l e room_1 s m args below meth c H locs c0 s0 Q (F0 m 1480 ls []) := by
  have hx := E.1
  have hb := E.2.1
  have hg : Gr S S := Gr.rf
  rw [gl_17] at h
  refine lv_aload_n hx hb dL_law_1480 rfl (lv_at hl 1 rfl) ?_
  refine lv_aload_n hx hb dL_law_1481 rfl (lv_at hl 0 rfl) ?_
  refine lv_iload hx hb dL_law_1482 (lv_at hl 4 rfl) ?_
  refine lv_iconst (v := 1) hx hb dL_law_1484 (by decide) ?_
  refine lv_iadd hx hb dL_law_1485 ?_
  obtain ⟨c1, h⟩ := h
  refine va_sld hx hb hX hbl hbA hw.2.2 (ib_in c1) dL_law_1486 ?_
  refine lv_aload_n hx hb dL_law_1487 rfl (lv_at hl 0 rfl) ?_
  refine lv_iload hx hb dL_law_1488 (lv_at hl 4 rfl) ?_
  refine lv_iconst (v := 2) hx hb dL_law_1490 (by decide) ?_
  refine lv_iadd hx hb dL_law_1491 ?_
  obtain ⟨c2, h⟩ := h
  refine va_sld hx hb hX hbl hbA hw.2.2 (ib_in c2) dL_law_1492 ?_
  refine lv_aload_n hx hb dL_law_1493 rfl (lv_at hl 0 rfl) ?_
  refine lv_iload hx hb dL_law_1494 (lv_at hl 4 rfl) ?_
  refine lv_iconst (v := 3) hx hb dL_law_1496 (by decide) ?_
  refine lv_iadd hx hb dL_law_1497 ?_
  obtain ⟨c3, h⟩ := h
  refine va_sld hx hb hX hbl hbA hw.2.2 (ib_in c3) dL_law_1498 ?_
  refine lv_aload_n hx hb dL_law_1499 rfl (lv_at hl 3 rfl) ?_
  refine l_SI E F hw [.ref o1, .int (xs (Int32.toNatClampNeg (x4 + (1 : Int32)))), .int (xs (Int32.toNatClampNeg (x4 + (2 : Int32)))), .int (xs (Int32.toNatClampNeg (x4 + (3 : Int32)))), .ref o3] (k_L_hopes l hst D cy kc o1 (xs (Int32.toNatClampNeg (x4 + (1 : Int32)))) (xs (Int32.toNatClampNeg (x4 + (2 : Int32)))) (xs (Int32.toNatClampNeg (x4 + (3 : Int32)))) o3 S h t_o1 t_o3) lk_L_hopes ml_L_159 ⟨by decide, by decide⟩ rfl hl.1 rfl (Nat.le_of_ble_eq_true rfl) dL_law_1500 ⟨(by first | omega | (simp only [rmK, room_1]; omega)), (by first | omega | (simp only [rmK, room_1]; omega))⟩ (fun r5 S4 H locs h hw hG => ?_)
  have t_o1 := hG.t t_o1
  have t_o2 := hG.t t_o2
  have t_o3 := hG.t t_o3
  have hg := hg.tr hG
  refine lv_istore (lv' := [(5, .int r5), (0, .ref b), (1, .ref o1), (2, .ref o2), (3, .ref o3), (4, .int x4)]) hx hb dL_law_1503 hl (by decide) rfl (fun ls hl => ?_)
  refine lv_aload_n hx hb dL_law_1505 rfl (lv_at hl 3 rfl) ?_
  refine lv_aload_n hx hb dL_law_1506 rfl (lv_at hl 1 rfl) ?_
  refine lv_iload hx hb dL_law_1507 (lv_at hl 5 rfl) ?_
  refine lv_iconst (v := 1) hx hb dL_law_1509 (by decide) ?_
  refine lv_iadd hx hb dL_law_1510 ?_
  obtain ⟨c6, h⟩ := h
  refine va_sld hx hb hX hbl hbA hw.2.2 (ib_in c6) dL_law_1511 ?_
  refine lv_aload_n hx hb dL_law_1512 rfl (lv_at hl 1 rfl) ?_
  refine lv_iload hx hb dL_law_1513 (lv_at hl 5 rfl) ?_
  refine lv_iconst (v := 2) hx hb dL_law_1515 (by decide) ?_
  refine lv_iadd hx hb dL_law_1516 ?_
  obtain ⟨c7, h⟩ := h
  refine va_sld hx hb hX hbl hbA hw.2.2 (ib_in c7) dL_law_1517 ?_
  refine lv_aload_n hx hb dL_law_1518 rfl (lv_at hl 1 rfl) ?_
  refine lv_iload hx hb dL_law_1519 (lv_at hl 5 rfl) ?_
  refine lv_iconst (v := 3) hx hb dL_law_1521 (by decide) ?_
  refine lv_iadd hx hb dL_law_1522 ?_
  obtain ⟨c8, h⟩ := h
  refine va_sld hx hb hX hbl hbA hw.2.2 (ib_in c8) dL_law_1523 ?_
  obtain ⟨q9, h_q9, h⟩ := h
  refine z_VJ E F hw [.int (xs (Int32.toNatClampNeg (x4 + (1 : Int32)))), .int (xs (Int32.toNatClampNeg (x4 + (2 : Int32)))), .int (xs (Int32.toNatClampNeg (x4 + (3 : Int32))))] (k_X11_hopes l D cy kc o2 (xs (Int32.toNatClampNeg (x4 + (1 : Int32)))) (xs (Int32.toNatClampNeg (x4 + (2 : Int32)))) (xs (Int32.toNatClampNeg (x4 + (3 : Int32)))) S4 h_q9 t_o2) t_o2 cf11 mk_X11_hopes vk_X11_hopes ml_L_161 ⟨by decide, by decide⟩ rfl hl.1 rfl (Nat.le_of_ble_eq_true rfl) dL_law_1524 ⟨(by first | omega | (simp only [rmK, room_1]; omega)), (by first | omega | (simp only [rmK, room_1]; omega))⟩ (fun H locs hw hG => ?_)
  have t_o1 := hG.t t_o1
  have t_o2 := hG.t t_o2
  have t_o3 := hG.t t_o3
  have hg := hg.tr hG
  refine lv_lstore (lv' := [(6, .long q9.1), (5, .int r5), (0, .ref b), (1, .ref o1), (2, .ref o2), (3, .ref o3), (4, .int x4)]) hx hb dL_law_1527 hl (by decide) rfl (fun ls hl => ?_)
  refine lv_aload_n hx hb dL_law_1529 rfl (lv_at hl 4 rfl) ?_
  obtain ⟨q10, h_q10, h⟩ := h
  refine z_VI E F hw [] (k_X11_thrown l D cy kc o2 q9.2 h_q10 t_o2) t_o2 cf11 mk_X11_thrown vk_X11_thrown ml_L_102 ⟨by decide, by decide⟩ rfl hl.1 rfl (Nat.le_of_ble_eq_true rfl) dL_law_1530 ⟨(by first | omega | (simp only [rmK, room_1]; omega)), (by first | omega | (simp only [rmK, room_1]; omega))⟩ (fun H locs hw hG => ?_)
  have t_o1 := hG.t t_o1
  have t_o2 := hG.t t_o2
  have t_o3 := hG.t t_o3
  have hg := hg.tr hG
  refine lv_iload hx hb dL_law_1533 (lv_at hl 1 rfl) ?_
  refine lv_icmp_eq (tgt := 1540) hx hb dL_law_1535 (by decide) (fun c11 => ?_) (fun c11 => ?_)
  · replace h := h.1 c11
    refine lv_iload hx hb dL_law_1540 (lv_at hl 1 rfl) ?_
    refine lv_if_ne (tgt := 1556) hx hb dL_law_1542 (by decide) (fun c12 => ?_) (fun c12 => ?_)
    · replace h := h.2 c12
      refine lv_goto (tgt := 2580) hx hb dL_law_1556 (by decide) ?_
      exact W.widen (by first | omega | (simp only [rmK, room_1]; omega)) (by first | omega | (simp only [rmK, room_1]; omega)) (kk q10.2 _ _ _ h hw t_o1 t_o2 t_o3 (lv_sub hl [2, 3, 4, 5, 6] rfl))
    · replace h := h.1 c12
      refine lv_aload_n hx hb dL_law_1545 rfl (lv_at hl 5 rfl) ?_
      refine lv_iconst (v := 0) hx hb dL_law_1546 (by decide) ?_
      obtain ⟨c13, h⟩ := h
      refine a_j E F hw t_o3 c13 dL_law_1547 ?_
      refine lv_lload hx hb dL_law_1548 (lv_at hl 0 rfl) ?_
      refine W.lcmp hx hb dL_law_1550 ?_
      refine lv_if_eq (tgt := 1556) hx hb dL_law_1551 (by decide) (fun c14 => ?_) (fun c14 => ?_)
      · replace h := h.1 c14
        refine lv_goto (tgt := 2580) hx hb dL_law_1556 (by decide) ?_
        exact W.widen (by first | omega | (simp only [rmK, room_1]; omega)) (by first | omega | (simp only [rmK, room_1]; omega)) (kk q10.2 _ _ _ h hw t_o1 t_o2 t_o3 (lv_sub hl [2, 3, 4, 5, 6] rfl))
      · replace h := h.2 c14
        exact h.elim
  · replace h := h.2 c11
    exact h.elim
def gl_18 (L : Nat) (xs : Nat → Int32) (o1 o2 o3 : Nat) (x4 : Int32) (S : PS) (K : PS → Prop) : Prop :=
  (ib (x4 + (1 : Int32)) L = true) ∧ ((ib (x4 + (2 : Int32)) L = true) ∧ ((ib (x4 + (3 : Int32)) L = true) ∧ (g_L_vow o1 (xs (Int32.toNatClampNeg (x4 + (1 : Int32)))) (xs (Int32.toNatClampNeg (x4 + (2 : Int32)))) (xs (Int32.toNatClampNeg (x4 + (3 : Int32)))) o3 S (fun (r5 : Int32) (S4 : PS) => ((ib (x4 + (1 : Int32)) L = true) ∧ ((ib (x4 + (2 : Int32)) L = true) ∧ ((ib (x4 + (3 : Int32)) L = true) ∧ (∃ q9, (f_X11_vow o2 (xs (Int32.toNatClampNeg (x4 + (1 : Int32)))) (xs (Int32.toNatClampNeg (x4 + (2 : Int32)))) (xs (Int32.toNatClampNeg (x4 + (3 : Int32)))) S4) = some q9 ∧ (∃ q10, (f_X11_thrown o2 q9.2) = some q10 ∧ (((q10.1 = r5 → (((r5 = (0 : Int32) → ((ib (0 : Int32) (sN q10.2 o3) = true) ∧ ((((lg_cmp (sJ q10.2 o3 (Int32.toNatClampNeg (0 : Int32))) q9.1) = (0 : Int32) → (K q10.2)) ∧ (¬ (lg_cmp (sJ q10.2 o3 (Int32.toNatClampNeg (0 : Int32))) q9.1) = (0 : Int32) → (False)))))) ∧ (¬ r5 = (0 : Int32) → (K q10.2))))) ∧ (¬ q10.1 = r5 → (False)))))))))))))
set_option maxHeartbeats 4000000 in
theorem lc_18 {p : Program} {l : Launch} {e : Env} {s : State} {m : MethodId} {args : Array Value} {below : List Frame} {meth : Method} {c : Code} {H : Heap} {locs : List Loc} {ls : Array Slot} {Q : State → Prop} {D : va_G} {cy : Nat → ClassId} {kc : Nat → Nat} {A : Nat → Prop} {b L : Nat} {xs : Nat → Int32} {c0 s0 : Nat} (hst : l.stackTraces = false) (E : CallFix p m c cL_law 8 s args LW RL) (F : Fx D cy kc A s) (hX : va_X b L xs s s.heap) (hbl : b < s.heap.size) (hbA : ¬ A b) (o1 o2 o3 : Nat) (x4 : Int32) (S : PS) {K : PS → Prop} (h : gl_18 L xs o1 o2 o3 x4 S K) (hc : c0 + 30 ≤ 601024) (hs : s0 + 9152 ≤ 7293034) (hw : Wd D cy A s H locs S) (t_o1 : tD S o1 10) (t_o2 : tD S o2 11) (t_o3 : tD S o3 14) (hl : lv_has ls 8 [(0, .ref b), (1, .ref o1), (2, .ref o2), (3, .ref o3), (4, .int x4)])
    (kk : ∀ (S1 : PS) (H : Heap) (locs : List Loc) (ls : Array Slot), K S1 → Wd D cy A s H locs S1 → tD S1 o1 10 → tD S1 o2 11 → tD S1 o3 14 → lv_has ls 8 [(0, .ref b), (1, .ref o1), (2, .ref o2), (3, .ref o3), (4, .int x4)] → W p l e room_1 s m args below meth c H locs (c0 + 30) (s0 + 9152) Q (F0 m 2580 ls [])) : W p l e room_1 s m args below meth c H locs c0 s0 Q (F0 m 1559 ls []) := by
  have hx := E.1
  have hb := E.2.1
  have hg : Gr S S := Gr.rf
  rw [gl_18] at h
  refine lv_aload_n hx hb dL_law_1559 rfl (lv_at hl 1 rfl) ?_
  refine lv_aload_n hx hb dL_law_1560 rfl (lv_at hl 0 rfl) ?_
  refine lv_iload hx hb dL_law_1561 (lv_at hl 4 rfl) ?_
  refine lv_iconst (v := 1) hx hb dL_law_1563 (by decide) ?_
  refine lv_iadd hx hb dL_law_1564 ?_
  obtain ⟨c1, h⟩ := h
  refine va_sld hx hb hX hbl hbA hw.2.2 (ib_in c1) dL_law_1565 ?_
  refine lv_aload_n hx hb dL_law_1566 rfl (lv_at hl 0 rfl) ?_
  refine lv_iload hx hb dL_law_1567 (lv_at hl 4 rfl) ?_
  refine lv_iconst (v := 2) hx hb dL_law_1569 (by decide) ?_
  refine lv_iadd hx hb dL_law_1570 ?_
  obtain ⟨c2, h⟩ := h
  refine va_sld hx hb hX hbl hbA hw.2.2 (ib_in c2) dL_law_1571 ?_
  refine lv_aload_n hx hb dL_law_1572 rfl (lv_at hl 0 rfl) ?_
  refine lv_iload hx hb dL_law_1573 (lv_at hl 4 rfl) ?_
  refine lv_iconst (v := 3) hx hb dL_law_1575 (by decide) ?_
  refine lv_iadd hx hb dL_law_1576 ?_
  obtain ⟨c3, h⟩ := h
  refine va_sld hx hb hX hbl hbA hw.2.2 (ib_in c3) dL_law_1577 ?_
  refine lv_aload_n hx hb dL_law_1578 rfl (lv_at hl 3 rfl) ?_
  refine l_SI E F hw [.ref o1, .int (xs (Int32.toNatClampNeg (x4 + (1 : Int32)))), .int (xs (Int32.toNatClampNeg (x4 + (2 : Int32)))), .int (xs (Int32.toNatClampNeg (x4 + (3 : Int32)))), .ref o3] (k_L_vow l hst D cy kc o1 (xs (Int32.toNatClampNeg (x4 + (1 : Int32)))) (xs (Int32.toNatClampNeg (x4 + (2 : Int32)))) (xs (Int32.toNatClampNeg (x4 + (3 : Int32)))) o3 S h t_o1 t_o3) lk_L_vow ml_L_162 ⟨by decide, by decide⟩ rfl hl.1 rfl (Nat.le_of_ble_eq_true rfl) dL_law_1579 ⟨(by first | omega | (simp only [rmK, room_1]; omega)), (by first | omega | (simp only [rmK, room_1]; omega))⟩ (fun r5 S4 H locs h hw hG => ?_)
  have t_o1 := hG.t t_o1
  have t_o2 := hG.t t_o2
  have t_o3 := hG.t t_o3
  have hg := hg.tr hG
  refine lv_istore (lv' := [(5, .int r5), (0, .ref b), (1, .ref o1), (2, .ref o2), (3, .ref o3), (4, .int x4)]) hx hb dL_law_1582 hl (by decide) rfl (fun ls hl => ?_)
  refine lv_aload_n hx hb dL_law_1584 rfl (lv_at hl 3 rfl) ?_
  refine lv_aload_n hx hb dL_law_1585 rfl (lv_at hl 1 rfl) ?_
  refine lv_iload hx hb dL_law_1586 (lv_at hl 5 rfl) ?_
  refine lv_iconst (v := 1) hx hb dL_law_1588 (by decide) ?_
  refine lv_iadd hx hb dL_law_1589 ?_
  obtain ⟨c6, h⟩ := h
  refine va_sld hx hb hX hbl hbA hw.2.2 (ib_in c6) dL_law_1590 ?_
  refine lv_aload_n hx hb dL_law_1591 rfl (lv_at hl 1 rfl) ?_
  refine lv_iload hx hb dL_law_1592 (lv_at hl 5 rfl) ?_
  refine lv_iconst (v := 2) hx hb dL_law_1594 (by decide) ?_
  refine lv_iadd hx hb dL_law_1595 ?_
  obtain ⟨c7, h⟩ := h
  refine va_sld hx hb hX hbl hbA hw.2.2 (ib_in c7) dL_law_1596 ?_
  refine lv_aload_n hx hb dL_law_1597 rfl (lv_at hl 1 rfl) ?_
  refine lv_iload hx hb dL_law_1598 (lv_at hl 5 rfl) ?_
  refine lv_iconst (v := 3) hx hb dL_law_1600 (by decide) ?_
  refine lv_iadd hx hb dL_law_1601 ?_
  obtain ⟨c8, h⟩ := h
  refine va_sld hx hb hX hbl hbA hw.2.2 (ib_in c8) dL_law_1602 ?_
  obtain ⟨q9, h_q9, h⟩ := h
  refine z_VJ E F hw [.int (xs (Int32.toNatClampNeg (x4 + (1 : Int32)))), .int (xs (Int32.toNatClampNeg (x4 + (2 : Int32)))), .int (xs (Int32.toNatClampNeg (x4 + (3 : Int32))))] (k_X11_vow l D cy kc o2 (xs (Int32.toNatClampNeg (x4 + (1 : Int32)))) (xs (Int32.toNatClampNeg (x4 + (2 : Int32)))) (xs (Int32.toNatClampNeg (x4 + (3 : Int32)))) S4 h_q9 t_o2) t_o2 cf11 mk_X11_vow vk_X11_vow ml_L_164 ⟨by decide, by decide⟩ rfl hl.1 rfl (Nat.le_of_ble_eq_true rfl) dL_law_1603 ⟨(by first | omega | (simp only [rmK, room_1]; omega)), (by first | omega | (simp only [rmK, room_1]; omega))⟩ (fun H locs hw hG => ?_)
  have t_o1 := hG.t t_o1
  have t_o2 := hG.t t_o2
  have t_o3 := hG.t t_o3
  have hg := hg.tr hG
  refine lv_lstore (lv' := [(6, .long q9.1), (5, .int r5), (0, .ref b), (1, .ref o1), (2, .ref o2), (3, .ref o3), (4, .int x4)]) hx hb dL_law_1606 hl (by decide) rfl (fun ls hl => ?_)
  refine lv_aload_n hx hb dL_law_1608 rfl (lv_at hl 4 rfl) ?_
  obtain ⟨q10, h_q10, h⟩ := h
  refine z_VI E F hw [] (k_X11_thrown l D cy kc o2 q9.2 h_q10 t_o2) t_o2 cf11 mk_X11_thrown vk_X11_thrown ml_L_102 ⟨by decide, by decide⟩ rfl hl.1 rfl (Nat.le_of_ble_eq_true rfl) dL_law_1609 ⟨(by first | omega | (simp only [rmK, room_1]; omega)), (by first | omega | (simp only [rmK, room_1]; omega))⟩ (fun H locs hw hG => ?_)
  have t_o1 := hG.t t_o1
  have t_o2 := hG.t t_o2
  have t_o3 := hG.t t_o3
  have hg := hg.tr hG
  refine lv_iload hx hb dL_law_1612 (lv_at hl 1 rfl) ?_
  refine lv_icmp_eq (tgt := 1619) hx hb dL_law_1614 (by decide) (fun c11 => ?_) (fun c11 => ?_)
  · replace h := h.1 c11
    refine lv_iload hx hb dL_law_1619 (lv_at hl 1 rfl) ?_
    refine lv_if_ne (tgt := 1635) hx hb dL_law_1621 (by decide) (fun c12 => ?_) (fun c12 => ?_)
    · replace h := h.2 c12
      refine lv_goto (tgt := 2580) hx hb dL_law_1635 (by decide) ?_
      exact W.widen (by first | omega | (simp only [rmK, room_1]; omega)) (by first | omega | (simp only [rmK, room_1]; omega)) (kk q10.2 _ _ _ h hw t_o1 t_o2 t_o3 (lv_sub hl [2, 3, 4, 5, 6] rfl))
    · replace h := h.1 c12
      refine lv_aload_n hx hb dL_law_1624 rfl (lv_at hl 5 rfl) ?_
      refine lv_iconst (v := 0) hx hb dL_law_1625 (by decide) ?_
      obtain ⟨c13, h⟩ := h
      refine a_j E F hw t_o3 c13 dL_law_1626 ?_
      refine lv_lload hx hb dL_law_1627 (lv_at hl 0 rfl) ?_
      refine W.lcmp hx hb dL_law_1629 ?_
      refine lv_if_eq (tgt := 1635) hx hb dL_law_1630 (by decide) (fun c14 => ?_) (fun c14 => ?_)
      · replace h := h.1 c14
        refine lv_goto (tgt := 2580) hx hb dL_law_1635 (by decide) ?_
        exact W.widen (by first | omega | (simp only [rmK, room_1]; omega)) (by first | omega | (simp only [rmK, room_1]; omega)) (kk q10.2 _ _ _ h hw t_o1 t_o2 t_o3 (lv_sub hl [2, 3, 4, 5, 6] rfl))
      · replace h := h.2 c14
        exact h.elim
  · replace h := h.2 c11
    exact h.elim
def gl_19 (L : Nat) (xs : Nat → Int32) (o1 o2 o3 : Nat) (x4 : Int32) (S : PS) (K : PS → Prop) : Prop :=
  (ib (x4 + (1 : Int32)) L = true) ∧ ((ib (x4 + (2 : Int32)) L = true) ∧ ((ib (x4 + (3 : Int32)) L = true) ∧ ((ib (x4 + (4 : Int32)) L = true) ∧ ((ib (x4 + (5 : Int32)) L = true) ∧ (g_L_bind o1 (xs (Int32.toNatClampNeg (x4 + (1 : Int32)))) (xs (Int32.toNatClampNeg (x4 + (2 : Int32)))) (xs (Int32.toNatClampNeg (x4 + (3 : Int32)))) (xs (Int32.toNatClampNeg (x4 + (4 : Int32)))) (xs (Int32.toNatClampNeg (x4 + (5 : Int32)))) o3 S (fun (r7 : Int32) (S6 : PS) => ((ib (x4 + (1 : Int32)) L = true) ∧ ((ib (x4 + (2 : Int32)) L = true) ∧ ((ib (x4 + (3 : Int32)) L = true) ∧ ((ib (x4 + (4 : Int32)) L = true) ∧ ((ib (x4 + (5 : Int32)) L = true) ∧ (∃ q13, (f_X11_bind o2 (xs (Int32.toNatClampNeg (x4 + (1 : Int32)))) (xs (Int32.toNatClampNeg (x4 + (2 : Int32)))) (xs (Int32.toNatClampNeg (x4 + (3 : Int32)))) (xs (Int32.toNatClampNeg (x4 + (4 : Int32)))) (xs (Int32.toNatClampNeg (x4 + (5 : Int32)))) S6) = some q13 ∧ (∃ q14, (f_X11_thrown o2 q13.2) = some q14 ∧ (((q14.1 = r7 → (((r7 = (0 : Int32) → ((ib (0 : Int32) (sN q14.2 o3) = true) ∧ ((((lg_cmp (sJ q14.2 o3 (Int32.toNatClampNeg (0 : Int32))) q13.1) = (0 : Int32) → (K q14.2)) ∧ (¬ (lg_cmp (sJ q14.2 o3 (Int32.toNatClampNeg (0 : Int32))) q13.1) = (0 : Int32) → (False)))))) ∧ (¬ r7 = (0 : Int32) → (K q14.2))))) ∧ (¬ q14.1 = r7 → (False)))))))))))))))))
set_option maxHeartbeats 4000000 in
theorem lc_19 {p : Program} {l : Launch} {e : Env} {s : State} {m : MethodId} {args : Array Value} {below : List Frame} {meth : Method} {c : Code} {H : Heap} {locs : List Loc} {ls : Array Slot} {Q : State → Prop} {D : va_G} {cy : Nat → ClassId} {kc : Nat → Nat} {A : Nat → Prop} {b L : Nat} {xs : Nat → Int32} {c0 s0 : Nat} (hst : l.stackTraces = false) (E : CallFix p m c cL_law 8 s args LW RL) (F : Fx D cy kc A s) (hX : va_X b L xs s s.heap) (hbl : b < s.heap.size) (hbA : ¬ A b) (o1 o2 o3 : Nat) (x4 : Int32) (S : PS) {K : PS → Prop} (h : gl_19 L xs o1 o2 o3 x4 S K) (hc : c0 + 30 ≤ 601024) (hs : s0 + 9152 ≤ 7293034) (hw : Wd D cy A s H locs S) (t_o1 : tD S o1 10) (t_o2 : tD S o2 11) (t_o3 : tD S o3 14) (hl : lv_has ls 8 [(0, .ref b), (1, .ref o1), (2, .ref o2), (3, .ref o3), (4, .int x4)])
    (kk : ∀ (S1 : PS) (H : Heap) (locs : List Loc) (ls : Array Slot), K S1 → Wd D cy A s H locs S1 → tD S1 o1 10 → tD S1 o2 11 → tD S1 o3 14 → lv_has ls 8 [(0, .ref b), (1, .ref o1), (2, .ref o2), (3, .ref o3), (4, .int x4)] → W p l e room_1 s m args below meth c H locs (c0 + 30) (s0 + 9152) Q (F0 m 2580 ls [])) : W p l e room_1 s m args below meth c H locs c0 s0 Q (F0 m 1638 ls []) := by
  have hx := E.1
  have hb := E.2.1
  have hg : Gr S S := Gr.rf
  rw [gl_19] at h
  refine lv_aload_n hx hb dL_law_1638 rfl (lv_at hl 1 rfl) ?_
  refine lv_aload_n hx hb dL_law_1639 rfl (lv_at hl 0 rfl) ?_
  refine lv_iload hx hb dL_law_1640 (lv_at hl 4 rfl) ?_
  refine lv_iconst (v := 1) hx hb dL_law_1642 (by decide) ?_
  refine lv_iadd hx hb dL_law_1643 ?_
  obtain ⟨c1, h⟩ := h
  refine va_sld hx hb hX hbl hbA hw.2.2 (ib_in c1) dL_law_1644 ?_
  refine lv_aload_n hx hb dL_law_1645 rfl (lv_at hl 0 rfl) ?_
  refine lv_iload hx hb dL_law_1646 (lv_at hl 4 rfl) ?_
  refine lv_iconst (v := 2) hx hb dL_law_1648 (by decide) ?_
  refine lv_iadd hx hb dL_law_1649 ?_
  obtain ⟨c2, h⟩ := h
  refine va_sld hx hb hX hbl hbA hw.2.2 (ib_in c2) dL_law_1650 ?_
  refine lv_aload_n hx hb dL_law_1651 rfl (lv_at hl 0 rfl) ?_
  refine lv_iload hx hb dL_law_1652 (lv_at hl 4 rfl) ?_
  refine lv_iconst (v := 3) hx hb dL_law_1654 (by decide) ?_
  refine lv_iadd hx hb dL_law_1655 ?_
  obtain ⟨c3, h⟩ := h
  refine va_sld hx hb hX hbl hbA hw.2.2 (ib_in c3) dL_law_1656 ?_
  refine lv_aload_n hx hb dL_law_1657 rfl (lv_at hl 0 rfl) ?_
  refine lv_iload hx hb dL_law_1658 (lv_at hl 4 rfl) ?_
  refine lv_iconst (v := 4) hx hb dL_law_1660 (by decide) ?_
  refine lv_iadd hx hb dL_law_1661 ?_
  obtain ⟨c4, h⟩ := h
  refine va_sld hx hb hX hbl hbA hw.2.2 (ib_in c4) dL_law_1662 ?_
  refine lv_aload_n hx hb dL_law_1663 rfl (lv_at hl 0 rfl) ?_
  refine lv_iload hx hb dL_law_1664 (lv_at hl 4 rfl) ?_
  refine lv_iconst (v := 5) hx hb dL_law_1666 (by decide) ?_
  refine lv_iadd hx hb dL_law_1667 ?_
  obtain ⟨c5, h⟩ := h
  refine va_sld hx hb hX hbl hbA hw.2.2 (ib_in c5) dL_law_1668 ?_
  refine lv_aload_n hx hb dL_law_1669 rfl (lv_at hl 3 rfl) ?_
  refine l_SI E F hw [.ref o1, .int (xs (Int32.toNatClampNeg (x4 + (1 : Int32)))), .int (xs (Int32.toNatClampNeg (x4 + (2 : Int32)))), .int (xs (Int32.toNatClampNeg (x4 + (3 : Int32)))), .int (xs (Int32.toNatClampNeg (x4 + (4 : Int32)))), .int (xs (Int32.toNatClampNeg (x4 + (5 : Int32)))), .ref o3] (k_L_bind l hst D cy kc o1 (xs (Int32.toNatClampNeg (x4 + (1 : Int32)))) (xs (Int32.toNatClampNeg (x4 + (2 : Int32)))) (xs (Int32.toNatClampNeg (x4 + (3 : Int32)))) (xs (Int32.toNatClampNeg (x4 + (4 : Int32)))) (xs (Int32.toNatClampNeg (x4 + (5 : Int32)))) o3 S h t_o1 t_o3) lk_L_bind ml_L_165 ⟨by decide, by decide⟩ rfl hl.1 rfl (Nat.le_of_ble_eq_true rfl) dL_law_1670 ⟨(by first | omega | (simp only [rmK, room_1]; omega)), (by first | omega | (simp only [rmK, room_1]; omega))⟩ (fun r7 S6 H locs h hw hG => ?_)
  have t_o1 := hG.t t_o1
  have t_o2 := hG.t t_o2
  have t_o3 := hG.t t_o3
  have hg := hg.tr hG
  refine lv_istore (lv' := [(5, .int r7), (0, .ref b), (1, .ref o1), (2, .ref o2), (3, .ref o3), (4, .int x4)]) hx hb dL_law_1673 hl (by decide) rfl (fun ls hl => ?_)
  refine lv_aload_n hx hb dL_law_1675 rfl (lv_at hl 3 rfl) ?_
  refine lv_aload_n hx hb dL_law_1676 rfl (lv_at hl 1 rfl) ?_
  refine lv_iload hx hb dL_law_1677 (lv_at hl 5 rfl) ?_
  refine lv_iconst (v := 1) hx hb dL_law_1679 (by decide) ?_
  refine lv_iadd hx hb dL_law_1680 ?_
  obtain ⟨c8, h⟩ := h
  refine va_sld hx hb hX hbl hbA hw.2.2 (ib_in c8) dL_law_1681 ?_
  refine lv_aload_n hx hb dL_law_1682 rfl (lv_at hl 1 rfl) ?_
  refine lv_iload hx hb dL_law_1683 (lv_at hl 5 rfl) ?_
  refine lv_iconst (v := 2) hx hb dL_law_1685 (by decide) ?_
  refine lv_iadd hx hb dL_law_1686 ?_
  obtain ⟨c9, h⟩ := h
  refine va_sld hx hb hX hbl hbA hw.2.2 (ib_in c9) dL_law_1687 ?_
  refine lv_aload_n hx hb dL_law_1688 rfl (lv_at hl 1 rfl) ?_
  refine lv_iload hx hb dL_law_1689 (lv_at hl 5 rfl) ?_
  refine lv_iconst (v := 3) hx hb dL_law_1691 (by decide) ?_
  refine lv_iadd hx hb dL_law_1692 ?_
  obtain ⟨c10, h⟩ := h
  refine va_sld hx hb hX hbl hbA hw.2.2 (ib_in c10) dL_law_1693 ?_
  refine lv_aload_n hx hb dL_law_1694 rfl (lv_at hl 1 rfl) ?_
  refine lv_iload hx hb dL_law_1695 (lv_at hl 5 rfl) ?_
  refine lv_iconst (v := 4) hx hb dL_law_1697 (by decide) ?_
  refine lv_iadd hx hb dL_law_1698 ?_
  obtain ⟨c11, h⟩ := h
  refine va_sld hx hb hX hbl hbA hw.2.2 (ib_in c11) dL_law_1699 ?_
  refine lv_aload_n hx hb dL_law_1700 rfl (lv_at hl 1 rfl) ?_
  refine lv_iload hx hb dL_law_1701 (lv_at hl 5 rfl) ?_
  refine lv_iconst (v := 5) hx hb dL_law_1703 (by decide) ?_
  refine lv_iadd hx hb dL_law_1704 ?_
  obtain ⟨c12, h⟩ := h
  refine va_sld hx hb hX hbl hbA hw.2.2 (ib_in c12) dL_law_1705 ?_
  obtain ⟨q13, h_q13, h⟩ := h
  refine z_VJ E F hw [.int (xs (Int32.toNatClampNeg (x4 + (1 : Int32)))), .int (xs (Int32.toNatClampNeg (x4 + (2 : Int32)))), .int (xs (Int32.toNatClampNeg (x4 + (3 : Int32)))), .int (xs (Int32.toNatClampNeg (x4 + (4 : Int32)))), .int (xs (Int32.toNatClampNeg (x4 + (5 : Int32))))] (k_X11_bind l D cy kc o2 (xs (Int32.toNatClampNeg (x4 + (1 : Int32)))) (xs (Int32.toNatClampNeg (x4 + (2 : Int32)))) (xs (Int32.toNatClampNeg (x4 + (3 : Int32)))) (xs (Int32.toNatClampNeg (x4 + (4 : Int32)))) (xs (Int32.toNatClampNeg (x4 + (5 : Int32)))) S6 h_q13 t_o2) t_o2 cf11 mk_X11_bind vk_X11_bind ml_L_167 ⟨by decide, by decide⟩ rfl hl.1 rfl (Nat.le_of_ble_eq_true rfl) dL_law_1706 ⟨(by first | omega | (simp only [rmK, room_1]; omega)), (by first | omega | (simp only [rmK, room_1]; omega))⟩ (fun H locs hw hG => ?_)
  have t_o1 := hG.t t_o1
  have t_o2 := hG.t t_o2
  have t_o3 := hG.t t_o3
  have hg := hg.tr hG
  refine lv_lstore (lv' := [(6, .long q13.1), (5, .int r7), (0, .ref b), (1, .ref o1), (2, .ref o2), (3, .ref o3), (4, .int x4)]) hx hb dL_law_1709 hl (by decide) rfl (fun ls hl => ?_)
  refine lv_aload_n hx hb dL_law_1711 rfl (lv_at hl 4 rfl) ?_
  obtain ⟨q14, h_q14, h⟩ := h
  refine z_VI E F hw [] (k_X11_thrown l D cy kc o2 q13.2 h_q14 t_o2) t_o2 cf11 mk_X11_thrown vk_X11_thrown ml_L_102 ⟨by decide, by decide⟩ rfl hl.1 rfl (Nat.le_of_ble_eq_true rfl) dL_law_1712 ⟨(by first | omega | (simp only [rmK, room_1]; omega)), (by first | omega | (simp only [rmK, room_1]; omega))⟩ (fun H locs hw hG => ?_)
  have t_o1 := hG.t t_o1
  have t_o2 := hG.t t_o2
  have t_o3 := hG.t t_o3
  have hg := hg.tr hG
  refine lv_iload hx hb dL_law_1715 (lv_at hl 1 rfl) ?_
  refine lv_icmp_eq (tgt := 1722) hx hb dL_law_1717 (by decide) (fun c15 => ?_) (fun c15 => ?_)
  · replace h := h.1 c15
    refine lv_iload hx hb dL_law_1722 (lv_at hl 1 rfl) ?_
    refine lv_if_ne (tgt := 1738) hx hb dL_law_1724 (by decide) (fun c16 => ?_) (fun c16 => ?_)
    · replace h := h.2 c16
      refine lv_goto (tgt := 2580) hx hb dL_law_1738 (by decide) ?_
      exact W.widen (by first | omega | (simp only [rmK, room_1]; omega)) (by first | omega | (simp only [rmK, room_1]; omega)) (kk q14.2 _ _ _ h hw t_o1 t_o2 t_o3 (lv_sub hl [2, 3, 4, 5, 6] rfl))
    · replace h := h.1 c16
      refine lv_aload_n hx hb dL_law_1727 rfl (lv_at hl 5 rfl) ?_
      refine lv_iconst (v := 0) hx hb dL_law_1728 (by decide) ?_
      obtain ⟨c17, h⟩ := h
      refine a_j E F hw t_o3 c17 dL_law_1729 ?_
      refine lv_lload hx hb dL_law_1730 (lv_at hl 0 rfl) ?_
      refine W.lcmp hx hb dL_law_1732 ?_
      refine lv_if_eq (tgt := 1738) hx hb dL_law_1733 (by decide) (fun c18 => ?_) (fun c18 => ?_)
      · replace h := h.1 c18
        refine lv_goto (tgt := 2580) hx hb dL_law_1738 (by decide) ?_
        exact W.widen (by first | omega | (simp only [rmK, room_1]; omega)) (by first | omega | (simp only [rmK, room_1]; omega)) (kk q14.2 _ _ _ h hw t_o1 t_o2 t_o3 (lv_sub hl [2, 3, 4, 5, 6] rfl))
      · replace h := h.2 c18
        exact h.elim
  · replace h := h.2 c15
    exact h.elim
def gl_20 (L : Nat) (xs : Nat → Int32) (o1 o2 o3 : Nat) (x4 : Int32) (S : PS) (K : PS → Prop) : Prop :=
  (ib (x4 + (1 : Int32)) L = true) ∧ ((ib (x4 + (2 : Int32)) L = true) ∧ ((ib (x4 + (3 : Int32)) L = true) ∧ ((ib (x4 + (4 : Int32)) L = true) ∧ ((ib (x4 + (5 : Int32)) L = true) ∧ ((ib (x4 + (6 : Int32)) L = true) ∧ (g_L_order o1 (xs (Int32.toNatClampNeg (x4 + (1 : Int32)))) (xs (Int32.toNatClampNeg (x4 + (2 : Int32)))) (xs (Int32.toNatClampNeg (x4 + (3 : Int32)))) (xs (Int32.toNatClampNeg (x4 + (4 : Int32)))) (xs (Int32.toNatClampNeg (x4 + (5 : Int32)))) (xs (Int32.toNatClampNeg (x4 + (6 : Int32)))) o3 S (fun (r8 : Int32) (S7 : PS) => ((ib (x4 + (1 : Int32)) L = true) ∧ ((ib (x4 + (2 : Int32)) L = true) ∧ ((ib (x4 + (3 : Int32)) L = true) ∧ ((ib (x4 + (4 : Int32)) L = true) ∧ ((ib (x4 + (5 : Int32)) L = true) ∧ ((ib (x4 + (6 : Int32)) L = true) ∧ (∃ q15, (f_X11_order o2 (xs (Int32.toNatClampNeg (x4 + (1 : Int32)))) (xs (Int32.toNatClampNeg (x4 + (2 : Int32)))) (xs (Int32.toNatClampNeg (x4 + (3 : Int32)))) (xs (Int32.toNatClampNeg (x4 + (4 : Int32)))) (xs (Int32.toNatClampNeg (x4 + (5 : Int32)))) (xs (Int32.toNatClampNeg (x4 + (6 : Int32)))) S7) = some q15 ∧ (∃ q16, (f_X11_thrown o2 q15.2) = some q16 ∧ (((q16.1 = r8 → (((r8 = (0 : Int32) → ((ib (0 : Int32) (sN q16.2 o3) = true) ∧ ((((lg_cmp (sJ q16.2 o3 (Int32.toNatClampNeg (0 : Int32))) q15.1) = (0 : Int32) → (K q16.2)) ∧ (¬ (lg_cmp (sJ q16.2 o3 (Int32.toNatClampNeg (0 : Int32))) q15.1) = (0 : Int32) → (False)))))) ∧ (¬ r8 = (0 : Int32) → (K q16.2))))) ∧ (¬ q16.1 = r8 → (False)))))))))))))))))))
set_option maxHeartbeats 4000000 in
theorem lc_20 {p : Program} {l : Launch} {e : Env} {s : State} {m : MethodId} {args : Array Value} {below : List Frame} {meth : Method} {c : Code} {H : Heap} {locs : List Loc} {ls : Array Slot} {Q : State → Prop} {D : va_G} {cy : Nat → ClassId} {kc : Nat → Nat} {A : Nat → Prop} {b L : Nat} {xs : Nat → Int32} {c0 s0 : Nat} (hst : l.stackTraces = false) (E : CallFix p m c cL_law 8 s args LW RL) (F : Fx D cy kc A s) (hX : va_X b L xs s s.heap) (hbl : b < s.heap.size) (hbA : ¬ A b) (o1 o2 o3 : Nat) (x4 : Int32) (S : PS) {K : PS → Prop} (h : gl_20 L xs o1 o2 o3 x4 S K) (hc : c0 + 30 ≤ 601024) (hs : s0 + 9152 ≤ 7293034) (hw : Wd D cy A s H locs S) (t_o1 : tD S o1 10) (t_o2 : tD S o2 11) (t_o3 : tD S o3 14) (hl : lv_has ls 8 [(0, .ref b), (1, .ref o1), (2, .ref o2), (3, .ref o3), (4, .int x4)])
    (kk : ∀ (S1 : PS) (H : Heap) (locs : List Loc) (ls : Array Slot), K S1 → Wd D cy A s H locs S1 → tD S1 o1 10 → tD S1 o2 11 → tD S1 o3 14 → lv_has ls 8 [(0, .ref b), (1, .ref o1), (2, .ref o2), (3, .ref o3), (4, .int x4)] → W p l e room_1 s m args below meth c H locs (c0 + 30) (s0 + 9152) Q (F0 m 2580 ls [])) : W p l e room_1 s m args below meth c H locs c0 s0 Q (F0 m 1741 ls []) := by
  have hx := E.1
  have hb := E.2.1
  have hg : Gr S S := Gr.rf
  rw [gl_20] at h
  refine lv_aload_n hx hb dL_law_1741 rfl (lv_at hl 1 rfl) ?_
  refine lv_aload_n hx hb dL_law_1742 rfl (lv_at hl 0 rfl) ?_
  refine lv_iload hx hb dL_law_1743 (lv_at hl 4 rfl) ?_
  refine lv_iconst (v := 1) hx hb dL_law_1745 (by decide) ?_
  refine lv_iadd hx hb dL_law_1746 ?_
  obtain ⟨c1, h⟩ := h
  refine va_sld hx hb hX hbl hbA hw.2.2 (ib_in c1) dL_law_1747 ?_
  refine lv_aload_n hx hb dL_law_1748 rfl (lv_at hl 0 rfl) ?_
  refine lv_iload hx hb dL_law_1749 (lv_at hl 4 rfl) ?_
  refine lv_iconst (v := 2) hx hb dL_law_1751 (by decide) ?_
  refine lv_iadd hx hb dL_law_1752 ?_
  obtain ⟨c2, h⟩ := h
  refine va_sld hx hb hX hbl hbA hw.2.2 (ib_in c2) dL_law_1753 ?_
  refine lv_aload_n hx hb dL_law_1754 rfl (lv_at hl 0 rfl) ?_
  refine lv_iload hx hb dL_law_1755 (lv_at hl 4 rfl) ?_
  refine lv_iconst (v := 3) hx hb dL_law_1757 (by decide) ?_
  refine lv_iadd hx hb dL_law_1758 ?_
  obtain ⟨c3, h⟩ := h
  refine va_sld hx hb hX hbl hbA hw.2.2 (ib_in c3) dL_law_1759 ?_
  refine lv_aload_n hx hb dL_law_1760 rfl (lv_at hl 0 rfl) ?_
  refine lv_iload hx hb dL_law_1761 (lv_at hl 4 rfl) ?_
  refine lv_iconst (v := 4) hx hb dL_law_1763 (by decide) ?_
  refine lv_iadd hx hb dL_law_1764 ?_
  obtain ⟨c4, h⟩ := h
  refine va_sld hx hb hX hbl hbA hw.2.2 (ib_in c4) dL_law_1765 ?_
  refine lv_aload_n hx hb dL_law_1766 rfl (lv_at hl 0 rfl) ?_
  refine lv_iload hx hb dL_law_1767 (lv_at hl 4 rfl) ?_
  refine lv_iconst (v := 5) hx hb dL_law_1769 (by decide) ?_
  refine lv_iadd hx hb dL_law_1770 ?_
  obtain ⟨c5, h⟩ := h
  refine va_sld hx hb hX hbl hbA hw.2.2 (ib_in c5) dL_law_1771 ?_
  refine lv_aload_n hx hb dL_law_1772 rfl (lv_at hl 0 rfl) ?_
  refine lv_iload hx hb dL_law_1773 (lv_at hl 4 rfl) ?_
  refine lv_bipush (v := 6) hx hb dL_law_1775 (by decide) ?_
  refine lv_iadd hx hb dL_law_1777 ?_
  obtain ⟨c6, h⟩ := h
  refine va_sld hx hb hX hbl hbA hw.2.2 (ib_in c6) dL_law_1778 ?_
  refine lv_aload_n hx hb dL_law_1779 rfl (lv_at hl 3 rfl) ?_
  refine l_SI E F hw [.ref o1, .int (xs (Int32.toNatClampNeg (x4 + (1 : Int32)))), .int (xs (Int32.toNatClampNeg (x4 + (2 : Int32)))), .int (xs (Int32.toNatClampNeg (x4 + (3 : Int32)))), .int (xs (Int32.toNatClampNeg (x4 + (4 : Int32)))), .int (xs (Int32.toNatClampNeg (x4 + (5 : Int32)))), .int (xs (Int32.toNatClampNeg (x4 + (6 : Int32)))), .ref o3] (k_L_order l hst D cy kc o1 (xs (Int32.toNatClampNeg (x4 + (1 : Int32)))) (xs (Int32.toNatClampNeg (x4 + (2 : Int32)))) (xs (Int32.toNatClampNeg (x4 + (3 : Int32)))) (xs (Int32.toNatClampNeg (x4 + (4 : Int32)))) (xs (Int32.toNatClampNeg (x4 + (5 : Int32)))) (xs (Int32.toNatClampNeg (x4 + (6 : Int32)))) o3 S h t_o1 t_o3) lk_L_order ml_L_168 ⟨by decide, by decide⟩ rfl hl.1 rfl (Nat.le_of_ble_eq_true rfl) dL_law_1780 ⟨(by first | omega | (simp only [rmK, room_1]; omega)), (by first | omega | (simp only [rmK, room_1]; omega))⟩ (fun r8 S7 H locs h hw hG => ?_)
  have t_o1 := hG.t t_o1
  have t_o2 := hG.t t_o2
  have t_o3 := hG.t t_o3
  have hg := hg.tr hG
  refine lv_istore (lv' := [(5, .int r8), (0, .ref b), (1, .ref o1), (2, .ref o2), (3, .ref o3), (4, .int x4)]) hx hb dL_law_1783 hl (by decide) rfl (fun ls hl => ?_)
  refine lv_aload_n hx hb dL_law_1785 rfl (lv_at hl 3 rfl) ?_
  refine lv_aload_n hx hb dL_law_1786 rfl (lv_at hl 1 rfl) ?_
  refine lv_iload hx hb dL_law_1787 (lv_at hl 5 rfl) ?_
  refine lv_iconst (v := 1) hx hb dL_law_1789 (by decide) ?_
  refine lv_iadd hx hb dL_law_1790 ?_
  obtain ⟨c9, h⟩ := h
  refine va_sld hx hb hX hbl hbA hw.2.2 (ib_in c9) dL_law_1791 ?_
  refine lv_aload_n hx hb dL_law_1792 rfl (lv_at hl 1 rfl) ?_
  refine lv_iload hx hb dL_law_1793 (lv_at hl 5 rfl) ?_
  refine lv_iconst (v := 2) hx hb dL_law_1795 (by decide) ?_
  refine lv_iadd hx hb dL_law_1796 ?_
  obtain ⟨c10, h⟩ := h
  refine va_sld hx hb hX hbl hbA hw.2.2 (ib_in c10) dL_law_1797 ?_
  refine lv_aload_n hx hb dL_law_1798 rfl (lv_at hl 1 rfl) ?_
  refine lv_iload hx hb dL_law_1799 (lv_at hl 5 rfl) ?_
  refine lv_iconst (v := 3) hx hb dL_law_1801 (by decide) ?_
  refine lv_iadd hx hb dL_law_1802 ?_
  obtain ⟨c11, h⟩ := h
  refine va_sld hx hb hX hbl hbA hw.2.2 (ib_in c11) dL_law_1803 ?_
  refine lv_aload_n hx hb dL_law_1804 rfl (lv_at hl 1 rfl) ?_
  refine lv_iload hx hb dL_law_1805 (lv_at hl 5 rfl) ?_
  refine lv_iconst (v := 4) hx hb dL_law_1807 (by decide) ?_
  refine lv_iadd hx hb dL_law_1808 ?_
  obtain ⟨c12, h⟩ := h
  refine va_sld hx hb hX hbl hbA hw.2.2 (ib_in c12) dL_law_1809 ?_
  refine lv_aload_n hx hb dL_law_1810 rfl (lv_at hl 1 rfl) ?_
  refine lv_iload hx hb dL_law_1811 (lv_at hl 5 rfl) ?_
  refine lv_iconst (v := 5) hx hb dL_law_1813 (by decide) ?_
  refine lv_iadd hx hb dL_law_1814 ?_
  obtain ⟨c13, h⟩ := h
  refine va_sld hx hb hX hbl hbA hw.2.2 (ib_in c13) dL_law_1815 ?_
  refine lv_aload_n hx hb dL_law_1816 rfl (lv_at hl 1 rfl) ?_
  refine lv_iload hx hb dL_law_1817 (lv_at hl 5 rfl) ?_
  refine lv_bipush (v := 6) hx hb dL_law_1819 (by decide) ?_
  refine lv_iadd hx hb dL_law_1821 ?_
  obtain ⟨c14, h⟩ := h
  refine va_sld hx hb hX hbl hbA hw.2.2 (ib_in c14) dL_law_1822 ?_
  obtain ⟨q15, h_q15, h⟩ := h
  refine z_VJ E F hw [.int (xs (Int32.toNatClampNeg (x4 + (1 : Int32)))), .int (xs (Int32.toNatClampNeg (x4 + (2 : Int32)))), .int (xs (Int32.toNatClampNeg (x4 + (3 : Int32)))), .int (xs (Int32.toNatClampNeg (x4 + (4 : Int32)))), .int (xs (Int32.toNatClampNeg (x4 + (5 : Int32)))), .int (xs (Int32.toNatClampNeg (x4 + (6 : Int32))))] (k_X11_order l D cy kc o2 (xs (Int32.toNatClampNeg (x4 + (1 : Int32)))) (xs (Int32.toNatClampNeg (x4 + (2 : Int32)))) (xs (Int32.toNatClampNeg (x4 + (3 : Int32)))) (xs (Int32.toNatClampNeg (x4 + (4 : Int32)))) (xs (Int32.toNatClampNeg (x4 + (5 : Int32)))) (xs (Int32.toNatClampNeg (x4 + (6 : Int32)))) S7 h_q15 t_o2) t_o2 cf11 mk_X11_order vk_X11_order ml_L_171 ⟨by decide, by decide⟩ rfl hl.1 rfl (Nat.le_of_ble_eq_true rfl) dL_law_1823 ⟨(by first | omega | (simp only [rmK, room_1]; omega)), (by first | omega | (simp only [rmK, room_1]; omega))⟩ (fun H locs hw hG => ?_)
  have t_o1 := hG.t t_o1
  have t_o2 := hG.t t_o2
  have t_o3 := hG.t t_o3
  have hg := hg.tr hG
  refine lv_lstore (lv' := [(6, .long q15.1), (5, .int r8), (0, .ref b), (1, .ref o1), (2, .ref o2), (3, .ref o3), (4, .int x4)]) hx hb dL_law_1826 hl (by decide) rfl (fun ls hl => ?_)
  refine lv_aload_n hx hb dL_law_1828 rfl (lv_at hl 4 rfl) ?_
  obtain ⟨q16, h_q16, h⟩ := h
  refine z_VI E F hw [] (k_X11_thrown l D cy kc o2 q15.2 h_q16 t_o2) t_o2 cf11 mk_X11_thrown vk_X11_thrown ml_L_102 ⟨by decide, by decide⟩ rfl hl.1 rfl (Nat.le_of_ble_eq_true rfl) dL_law_1829 ⟨(by first | omega | (simp only [rmK, room_1]; omega)), (by first | omega | (simp only [rmK, room_1]; omega))⟩ (fun H locs hw hG => ?_)
  have t_o1 := hG.t t_o1
  have t_o2 := hG.t t_o2
  have t_o3 := hG.t t_o3
  have hg := hg.tr hG
  refine lv_iload hx hb dL_law_1832 (lv_at hl 1 rfl) ?_
  refine lv_icmp_eq (tgt := 1839) hx hb dL_law_1834 (by decide) (fun c17 => ?_) (fun c17 => ?_)
  · replace h := h.1 c17
    refine lv_iload hx hb dL_law_1839 (lv_at hl 1 rfl) ?_
    refine lv_if_ne (tgt := 1855) hx hb dL_law_1841 (by decide) (fun c18 => ?_) (fun c18 => ?_)
    · replace h := h.2 c18
      refine lv_goto (tgt := 2580) hx hb dL_law_1855 (by decide) ?_
      exact W.widen (by first | omega | (simp only [rmK, room_1]; omega)) (by first | omega | (simp only [rmK, room_1]; omega)) (kk q16.2 _ _ _ h hw t_o1 t_o2 t_o3 (lv_sub hl [2, 3, 4, 5, 6] rfl))
    · replace h := h.1 c18
      refine lv_aload_n hx hb dL_law_1844 rfl (lv_at hl 5 rfl) ?_
      refine lv_iconst (v := 0) hx hb dL_law_1845 (by decide) ?_
      obtain ⟨c19, h⟩ := h
      refine a_j E F hw t_o3 c19 dL_law_1846 ?_
      refine lv_lload hx hb dL_law_1847 (lv_at hl 0 rfl) ?_
      refine W.lcmp hx hb dL_law_1849 ?_
      refine lv_if_eq (tgt := 1855) hx hb dL_law_1850 (by decide) (fun c20 => ?_) (fun c20 => ?_)
      · replace h := h.1 c20
        refine lv_goto (tgt := 2580) hx hb dL_law_1855 (by decide) ?_
        exact W.widen (by first | omega | (simp only [rmK, room_1]; omega)) (by first | omega | (simp only [rmK, room_1]; omega)) (kk q16.2 _ _ _ h hw t_o1 t_o2 t_o3 (lv_sub hl [2, 3, 4, 5, 6] rfl))
      · replace h := h.2 c20
        exact h.elim
  · replace h := h.2 c17
    exact h.elim
def gl_21 (L : Nat) (xs : Nat → Int32) (o1 o2 o3 : Nat) (x4 : Int32) (S : PS) (K : PS → Prop) : Prop :=
  (ib (x4 + (1 : Int32)) L = true) ∧ ((ib (x4 + (2 : Int32)) L = true) ∧ ((ib (x4 + (3 : Int32)) L = true) ∧ ((ib (x4 + (4 : Int32)) L = true) ∧ (g_L_century o1 (xs (Int32.toNatClampNeg (x4 + (1 : Int32)))) (xs (Int32.toNatClampNeg (x4 + (2 : Int32)))) (xs (Int32.toNatClampNeg (x4 + (3 : Int32)))) (xs (Int32.toNatClampNeg (x4 + (4 : Int32)))) o3 S (fun (r6 : Int32) (S5 : PS) => ((ib (x4 + (1 : Int32)) L = true) ∧ ((ib (x4 + (2 : Int32)) L = true) ∧ ((ib (x4 + (3 : Int32)) L = true) ∧ ((ib (x4 + (4 : Int32)) L = true) ∧ (∃ q11, (f_X11_century o2 (xs (Int32.toNatClampNeg (x4 + (1 : Int32)))) (xs (Int32.toNatClampNeg (x4 + (2 : Int32)))) (xs (Int32.toNatClampNeg (x4 + (3 : Int32)))) (xs (Int32.toNatClampNeg (x4 + (4 : Int32)))) S5) = some q11 ∧ (∃ q12, (f_X11_thrown o2 q11.2) = some q12 ∧ (((q12.1 = r6 → (((r6 = (0 : Int32) → ((ib (0 : Int32) (sN q12.2 o3) = true) ∧ ((((lg_cmp (sJ q12.2 o3 (Int32.toNatClampNeg (0 : Int32))) (Int32.toInt64 q11.1)) = (0 : Int32) → (K q12.2)) ∧ (¬ (lg_cmp (sJ q12.2 o3 (Int32.toNatClampNeg (0 : Int32))) (Int32.toInt64 q11.1)) = (0 : Int32) → (False)))))) ∧ (¬ r6 = (0 : Int32) → (K q12.2))))) ∧ (¬ q12.1 = r6 → (False)))))))))))))))
set_option maxHeartbeats 4000000 in
theorem lc_21 {p : Program} {l : Launch} {e : Env} {s : State} {m : MethodId} {args : Array Value} {below : List Frame} {meth : Method} {c : Code} {H : Heap} {locs : List Loc} {ls : Array Slot} {Q : State → Prop} {D : va_G} {cy : Nat → ClassId} {kc : Nat → Nat} {A : Nat → Prop} {b L : Nat} {xs : Nat → Int32} {c0 s0 : Nat} (hst : l.stackTraces = false) (E : CallFix p m c cL_law 8 s args LW RL) (F : Fx D cy kc A s) (hX : va_X b L xs s s.heap) (hbl : b < s.heap.size) (hbA : ¬ A b) (o1 o2 o3 : Nat) (x4 : Int32) (S : PS) {K : PS → Prop} (h : gl_21 L xs o1 o2 o3 x4 S K) (hc : c0 + 30 ≤ 601024) (hs : s0 + 9152 ≤ 7293034) (hw : Wd D cy A s H locs S) (t_o1 : tD S o1 10) (t_o2 : tD S o2 11) (t_o3 : tD S o3 14) (hl : lv_has ls 8 [(0, .ref b), (1, .ref o1), (2, .ref o2), (3, .ref o3), (4, .int x4)])
    (kk : ∀ (S1 : PS) (H : Heap) (locs : List Loc) (ls : Array Slot), K S1 → Wd D cy A s H locs S1 → tD S1 o1 10 → tD S1 o2 11 → tD S1 o3 14 → lv_has ls 8 [(0, .ref b), (1, .ref o1), (2, .ref o2), (3, .ref o3), (4, .int x4)] → W p l e room_1 s m args below meth c H locs (c0 + 30) (s0 + 9152) Q (F0 m 2580 ls [])) : W p l e room_1 s m args below meth c H locs c0 s0 Q (F0 m 1858 ls []) := by
  have hx := E.1
  have hb := E.2.1
  have hg : Gr S S := Gr.rf
  rw [gl_21] at h
  refine lv_aload_n hx hb dL_law_1858 rfl (lv_at hl 1 rfl) ?_
  refine lv_aload_n hx hb dL_law_1859 rfl (lv_at hl 0 rfl) ?_
  refine lv_iload hx hb dL_law_1860 (lv_at hl 4 rfl) ?_
  refine lv_iconst (v := 1) hx hb dL_law_1862 (by decide) ?_
  refine lv_iadd hx hb dL_law_1863 ?_
  obtain ⟨c1, h⟩ := h
  refine va_sld hx hb hX hbl hbA hw.2.2 (ib_in c1) dL_law_1864 ?_
  refine lv_aload_n hx hb dL_law_1865 rfl (lv_at hl 0 rfl) ?_
  refine lv_iload hx hb dL_law_1866 (lv_at hl 4 rfl) ?_
  refine lv_iconst (v := 2) hx hb dL_law_1868 (by decide) ?_
  refine lv_iadd hx hb dL_law_1869 ?_
  obtain ⟨c2, h⟩ := h
  refine va_sld hx hb hX hbl hbA hw.2.2 (ib_in c2) dL_law_1870 ?_
  refine lv_aload_n hx hb dL_law_1871 rfl (lv_at hl 0 rfl) ?_
  refine lv_iload hx hb dL_law_1872 (lv_at hl 4 rfl) ?_
  refine lv_iconst (v := 3) hx hb dL_law_1874 (by decide) ?_
  refine lv_iadd hx hb dL_law_1875 ?_
  obtain ⟨c3, h⟩ := h
  refine va_sld hx hb hX hbl hbA hw.2.2 (ib_in c3) dL_law_1876 ?_
  refine lv_aload_n hx hb dL_law_1877 rfl (lv_at hl 0 rfl) ?_
  refine lv_iload hx hb dL_law_1878 (lv_at hl 4 rfl) ?_
  refine lv_iconst (v := 4) hx hb dL_law_1880 (by decide) ?_
  refine lv_iadd hx hb dL_law_1881 ?_
  obtain ⟨c4, h⟩ := h
  refine va_sld hx hb hX hbl hbA hw.2.2 (ib_in c4) dL_law_1882 ?_
  refine lv_aload_n hx hb dL_law_1883 rfl (lv_at hl 3 rfl) ?_
  refine l_SI E F hw [.ref o1, .int (xs (Int32.toNatClampNeg (x4 + (1 : Int32)))), .int (xs (Int32.toNatClampNeg (x4 + (2 : Int32)))), .int (xs (Int32.toNatClampNeg (x4 + (3 : Int32)))), .int (xs (Int32.toNatClampNeg (x4 + (4 : Int32)))), .ref o3] (k_L_century l hst D cy kc o1 (xs (Int32.toNatClampNeg (x4 + (1 : Int32)))) (xs (Int32.toNatClampNeg (x4 + (2 : Int32)))) (xs (Int32.toNatClampNeg (x4 + (3 : Int32)))) (xs (Int32.toNatClampNeg (x4 + (4 : Int32)))) o3 S h t_o1 t_o3) lk_L_century ml_L_172 ⟨by decide, by decide⟩ rfl hl.1 rfl (Nat.le_of_ble_eq_true rfl) dL_law_1884 ⟨(by first | omega | (simp only [rmK, room_1]; omega)), (by first | omega | (simp only [rmK, room_1]; omega))⟩ (fun r6 S5 H locs h hw hG => ?_)
  have t_o1 := hG.t t_o1
  have t_o2 := hG.t t_o2
  have t_o3 := hG.t t_o3
  have hg := hg.tr hG
  refine lv_istore (lv' := [(5, .int r6), (0, .ref b), (1, .ref o1), (2, .ref o2), (3, .ref o3), (4, .int x4)]) hx hb dL_law_1887 hl (by decide) rfl (fun ls hl => ?_)
  refine lv_aload_n hx hb dL_law_1889 rfl (lv_at hl 3 rfl) ?_
  refine lv_aload_n hx hb dL_law_1890 rfl (lv_at hl 1 rfl) ?_
  refine lv_iload hx hb dL_law_1891 (lv_at hl 5 rfl) ?_
  refine lv_iconst (v := 1) hx hb dL_law_1893 (by decide) ?_
  refine lv_iadd hx hb dL_law_1894 ?_
  obtain ⟨c7, h⟩ := h
  refine va_sld hx hb hX hbl hbA hw.2.2 (ib_in c7) dL_law_1895 ?_
  refine lv_aload_n hx hb dL_law_1896 rfl (lv_at hl 1 rfl) ?_
  refine lv_iload hx hb dL_law_1897 (lv_at hl 5 rfl) ?_
  refine lv_iconst (v := 2) hx hb dL_law_1899 (by decide) ?_
  refine lv_iadd hx hb dL_law_1900 ?_
  obtain ⟨c8, h⟩ := h
  refine va_sld hx hb hX hbl hbA hw.2.2 (ib_in c8) dL_law_1901 ?_
  refine lv_aload_n hx hb dL_law_1902 rfl (lv_at hl 1 rfl) ?_
  refine lv_iload hx hb dL_law_1903 (lv_at hl 5 rfl) ?_
  refine lv_iconst (v := 3) hx hb dL_law_1905 (by decide) ?_
  refine lv_iadd hx hb dL_law_1906 ?_
  obtain ⟨c9, h⟩ := h
  refine va_sld hx hb hX hbl hbA hw.2.2 (ib_in c9) dL_law_1907 ?_
  refine lv_aload_n hx hb dL_law_1908 rfl (lv_at hl 1 rfl) ?_
  refine lv_iload hx hb dL_law_1909 (lv_at hl 5 rfl) ?_
  refine lv_iconst (v := 4) hx hb dL_law_1911 (by decide) ?_
  refine lv_iadd hx hb dL_law_1912 ?_
  obtain ⟨c10, h⟩ := h
  refine va_sld hx hb hX hbl hbA hw.2.2 (ib_in c10) dL_law_1913 ?_
  obtain ⟨q11, h_q11, h⟩ := h
  refine z_VI E F hw [.int (xs (Int32.toNatClampNeg (x4 + (1 : Int32)))), .int (xs (Int32.toNatClampNeg (x4 + (2 : Int32)))), .int (xs (Int32.toNatClampNeg (x4 + (3 : Int32)))), .int (xs (Int32.toNatClampNeg (x4 + (4 : Int32))))] (k_X11_century l D cy kc o2 (xs (Int32.toNatClampNeg (x4 + (1 : Int32)))) (xs (Int32.toNatClampNeg (x4 + (2 : Int32)))) (xs (Int32.toNatClampNeg (x4 + (3 : Int32)))) (xs (Int32.toNatClampNeg (x4 + (4 : Int32)))) S5 h_q11 t_o2) t_o2 cf11 mk_X11_century vk_X11_century ml_L_174 ⟨by decide, by decide⟩ rfl hl.1 rfl (Nat.le_of_ble_eq_true rfl) dL_law_1914 ⟨(by first | omega | (simp only [rmK, room_1]; omega)), (by first | omega | (simp only [rmK, room_1]; omega))⟩ (fun H locs hw hG => ?_)
  have t_o1 := hG.t t_o1
  have t_o2 := hG.t t_o2
  have t_o3 := hG.t t_o3
  have hg := hg.tr hG
  refine lv_istore (lv' := [(6, .int q11.1), (5, .int r6), (0, .ref b), (1, .ref o1), (2, .ref o2), (3, .ref o3), (4, .int x4)]) hx hb dL_law_1917 hl (by decide) rfl (fun ls hl => ?_)
  refine lv_aload_n hx hb dL_law_1919 rfl (lv_at hl 4 rfl) ?_
  obtain ⟨q12, h_q12, h⟩ := h
  refine z_VI E F hw [] (k_X11_thrown l D cy kc o2 q11.2 h_q12 t_o2) t_o2 cf11 mk_X11_thrown vk_X11_thrown ml_L_102 ⟨by decide, by decide⟩ rfl hl.1 rfl (Nat.le_of_ble_eq_true rfl) dL_law_1920 ⟨(by first | omega | (simp only [rmK, room_1]; omega)), (by first | omega | (simp only [rmK, room_1]; omega))⟩ (fun H locs hw hG => ?_)
  have t_o1 := hG.t t_o1
  have t_o2 := hG.t t_o2
  have t_o3 := hG.t t_o3
  have hg := hg.tr hG
  refine lv_iload hx hb dL_law_1923 (lv_at hl 1 rfl) ?_
  refine lv_icmp_eq (tgt := 1930) hx hb dL_law_1925 (by decide) (fun c13 => ?_) (fun c13 => ?_)
  · replace h := h.1 c13
    refine lv_iload hx hb dL_law_1930 (lv_at hl 1 rfl) ?_
    refine lv_if_ne (tgt := 1947) hx hb dL_law_1932 (by decide) (fun c14 => ?_) (fun c14 => ?_)
    · replace h := h.2 c14
      refine lv_goto (tgt := 2580) hx hb dL_law_1947 (by decide) ?_
      exact W.widen (by first | omega | (simp only [rmK, room_1]; omega)) (by first | omega | (simp only [rmK, room_1]; omega)) (kk q12.2 _ _ _ h hw t_o1 t_o2 t_o3 (lv_sub hl [2, 3, 4, 5, 6] rfl))
    · replace h := h.1 c14
      refine lv_aload_n hx hb dL_law_1935 rfl (lv_at hl 5 rfl) ?_
      refine lv_iconst (v := 0) hx hb dL_law_1936 (by decide) ?_
      obtain ⟨c15, h⟩ := h
      refine a_j E F hw t_o3 c15 dL_law_1937 ?_
      refine lv_iload hx hb dL_law_1938 (lv_at hl 0 rfl) ?_
      refine lv_i2l hx hb dL_law_1940 rfl ?_
      refine W.lcmp hx hb dL_law_1941 ?_
      refine lv_if_eq (tgt := 1947) hx hb dL_law_1942 (by decide) (fun c16 => ?_) (fun c16 => ?_)
      · replace h := h.1 c16
        refine lv_goto (tgt := 2580) hx hb dL_law_1947 (by decide) ?_
        exact W.widen (by first | omega | (simp only [rmK, room_1]; omega)) (by first | omega | (simp only [rmK, room_1]; omega)) (kk q12.2 _ _ _ h hw t_o1 t_o2 t_o3 (lv_sub hl [2, 3, 4, 5, 6] rfl))
      · replace h := h.2 c16
        exact h.elim
  · replace h := h.2 c13
    exact h.elim
def gl_22 (L : Nat) (xs : Nat → Int32) (o1 o2 o3 : Nat) (x4 : Int32) (S : PS) (K : PS → Prop) : Prop :=
  (ib (x4 + (1 : Int32)) L = true) ∧ ((ib (x4 + (2 : Int32)) L = true) ∧ ((ib (x4 + (3 : Int32)) L = true) ∧ (g_L_fares o1 (xs (Int32.toNatClampNeg (x4 + (1 : Int32)))) (xs (Int32.toNatClampNeg (x4 + (2 : Int32)))) (xs (Int32.toNatClampNeg (x4 + (3 : Int32)))) o3 S (fun (r5 : Int32) (S4 : PS) => ((ib (x4 + (1 : Int32)) L = true) ∧ ((ib (x4 + (2 : Int32)) L = true) ∧ ((ib (x4 + (3 : Int32)) L = true) ∧ (∃ q9, (f_X11_fares o2 (xs (Int32.toNatClampNeg (x4 + (1 : Int32)))) (xs (Int32.toNatClampNeg (x4 + (2 : Int32)))) (xs (Int32.toNatClampNeg (x4 + (3 : Int32)))) S4) = some q9 ∧ (∃ q10, (f_X11_thrown o2 q9.2) = some q10 ∧ (((q10.1 = r5 → (((r5 = (0 : Int32) → ((ib (0 : Int32) (sN q10.2 o3) = true) ∧ ((((lg_cmp (sJ q10.2 o3 (Int32.toNatClampNeg (0 : Int32))) (Int32.toInt64 q9.1)) = (0 : Int32) → (K q10.2)) ∧ (¬ (lg_cmp (sJ q10.2 o3 (Int32.toNatClampNeg (0 : Int32))) (Int32.toInt64 q9.1)) = (0 : Int32) → (False)))))) ∧ (¬ r5 = (0 : Int32) → (K q10.2))))) ∧ (¬ q10.1 = r5 → (False)))))))))))))
set_option maxHeartbeats 4000000 in
theorem lc_22 {p : Program} {l : Launch} {e : Env} {s : State} {m : MethodId} {args : Array Value} {below : List Frame} {meth : Method} {c : Code} {H : Heap} {locs : List Loc} {ls : Array Slot} {Q : State → Prop} {D : va_G} {cy : Nat → ClassId} {kc : Nat → Nat} {A : Nat → Prop} {b L : Nat} {xs : Nat → Int32} {c0 s0 : Nat} (hst : l.stackTraces = false) (E : CallFix p m c cL_law 8 s args LW RL) (F : Fx D cy kc A s) (hX : va_X b L xs s s.heap) (hbl : b < s.heap.size) (hbA : ¬ A b) (o1 o2 o3 : Nat) (x4 : Int32) (S : PS) {K : PS → Prop} (h : gl_22 L xs o1 o2 o3 x4 S K) (hc : c0 + 30 ≤ 601024) (hs : s0 + 9152 ≤ 7293034) (hw : Wd D cy A s H locs S) (t_o1 : tD S o1 10) (t_o2 : tD S o2 11) (t_o3 : tD S o3 14) (hl : lv_has ls 8 [(0, .ref b), (1, .ref o1), (2, .ref o2), (3, .ref o3), (4, .int x4)])
    (kk : ∀ (S1 : PS) (H : Heap) (locs : List Loc) (ls : Array Slot), K S1 → Wd D cy A s H locs S1 → tD S1 o1 10 → tD S1 o2 11 → tD S1 o3 14 → lv_has ls 8 [(0, .ref b), (1, .ref o1), (2, .ref o2), (3, .ref o3), (4, .int x4)] → W p l e room_1 s m args below meth c H locs (c0 + 30) (s0 + 9152) Q (F0 m 2580 ls [])) : W p l e room_1 s m args below meth c H locs c0 s0 Q (F0 m 1950 ls []) := by
  have hx := E.1
  have hb := E.2.1
  have hg : Gr S S := Gr.rf
  rw [gl_22] at h
  refine lv_aload_n hx hb dL_law_1950 rfl (lv_at hl 1 rfl) ?_
  refine lv_aload_n hx hb dL_law_1951 rfl (lv_at hl 0 rfl) ?_
  refine lv_iload hx hb dL_law_1952 (lv_at hl 4 rfl) ?_
  refine lv_iconst (v := 1) hx hb dL_law_1954 (by decide) ?_
  refine lv_iadd hx hb dL_law_1955 ?_
  obtain ⟨c1, h⟩ := h
  refine va_sld hx hb hX hbl hbA hw.2.2 (ib_in c1) dL_law_1956 ?_
  refine lv_aload_n hx hb dL_law_1957 rfl (lv_at hl 0 rfl) ?_
  refine lv_iload hx hb dL_law_1958 (lv_at hl 4 rfl) ?_
  refine lv_iconst (v := 2) hx hb dL_law_1960 (by decide) ?_
  refine lv_iadd hx hb dL_law_1961 ?_
  obtain ⟨c2, h⟩ := h
  refine va_sld hx hb hX hbl hbA hw.2.2 (ib_in c2) dL_law_1962 ?_
  refine lv_aload_n hx hb dL_law_1963 rfl (lv_at hl 0 rfl) ?_
  refine lv_iload hx hb dL_law_1964 (lv_at hl 4 rfl) ?_
  refine lv_iconst (v := 3) hx hb dL_law_1966 (by decide) ?_
  refine lv_iadd hx hb dL_law_1967 ?_
  obtain ⟨c3, h⟩ := h
  refine va_sld hx hb hX hbl hbA hw.2.2 (ib_in c3) dL_law_1968 ?_
  refine lv_aload_n hx hb dL_law_1969 rfl (lv_at hl 3 rfl) ?_
  refine l_SI E F hw [.ref o1, .int (xs (Int32.toNatClampNeg (x4 + (1 : Int32)))), .int (xs (Int32.toNatClampNeg (x4 + (2 : Int32)))), .int (xs (Int32.toNatClampNeg (x4 + (3 : Int32)))), .ref o3] (k_L_fares l hst D cy kc o1 (xs (Int32.toNatClampNeg (x4 + (1 : Int32)))) (xs (Int32.toNatClampNeg (x4 + (2 : Int32)))) (xs (Int32.toNatClampNeg (x4 + (3 : Int32)))) o3 S h t_o1 t_o3) lk_L_fares ml_L_175 ⟨by decide, by decide⟩ rfl hl.1 rfl (Nat.le_of_ble_eq_true rfl) dL_law_1970 ⟨(by first | omega | (simp only [rmK, room_1]; omega)), (by first | omega | (simp only [rmK, room_1]; omega))⟩ (fun r5 S4 H locs h hw hG => ?_)
  have t_o1 := hG.t t_o1
  have t_o2 := hG.t t_o2
  have t_o3 := hG.t t_o3
  have hg := hg.tr hG
  refine lv_istore (lv' := [(5, .int r5), (0, .ref b), (1, .ref o1), (2, .ref o2), (3, .ref o3), (4, .int x4)]) hx hb dL_law_1973 hl (by decide) rfl (fun ls hl => ?_)
  refine lv_aload_n hx hb dL_law_1975 rfl (lv_at hl 3 rfl) ?_
  refine lv_aload_n hx hb dL_law_1976 rfl (lv_at hl 1 rfl) ?_
  refine lv_iload hx hb dL_law_1977 (lv_at hl 5 rfl) ?_
  refine lv_iconst (v := 1) hx hb dL_law_1979 (by decide) ?_
  refine lv_iadd hx hb dL_law_1980 ?_
  obtain ⟨c6, h⟩ := h
  refine va_sld hx hb hX hbl hbA hw.2.2 (ib_in c6) dL_law_1981 ?_
  refine lv_aload_n hx hb dL_law_1982 rfl (lv_at hl 1 rfl) ?_
  refine lv_iload hx hb dL_law_1983 (lv_at hl 5 rfl) ?_
  refine lv_iconst (v := 2) hx hb dL_law_1985 (by decide) ?_
  refine lv_iadd hx hb dL_law_1986 ?_
  obtain ⟨c7, h⟩ := h
  refine va_sld hx hb hX hbl hbA hw.2.2 (ib_in c7) dL_law_1987 ?_
  refine lv_aload_n hx hb dL_law_1988 rfl (lv_at hl 1 rfl) ?_
  refine lv_iload hx hb dL_law_1989 (lv_at hl 5 rfl) ?_
  refine lv_iconst (v := 3) hx hb dL_law_1991 (by decide) ?_
  refine lv_iadd hx hb dL_law_1992 ?_
  obtain ⟨c8, h⟩ := h
  refine va_sld hx hb hX hbl hbA hw.2.2 (ib_in c8) dL_law_1993 ?_
  obtain ⟨q9, h_q9, h⟩ := h
  refine z_VI E F hw [.int (xs (Int32.toNatClampNeg (x4 + (1 : Int32)))), .int (xs (Int32.toNatClampNeg (x4 + (2 : Int32)))), .int (xs (Int32.toNatClampNeg (x4 + (3 : Int32))))] (k_X11_fares l D cy kc o2 (xs (Int32.toNatClampNeg (x4 + (1 : Int32)))) (xs (Int32.toNatClampNeg (x4 + (2 : Int32)))) (xs (Int32.toNatClampNeg (x4 + (3 : Int32)))) S4 h_q9 t_o2) t_o2 cf11 mk_X11_fares vk_X11_fares ml_L_177 ⟨by decide, by decide⟩ rfl hl.1 rfl (Nat.le_of_ble_eq_true rfl) dL_law_1994 ⟨(by first | omega | (simp only [rmK, room_1]; omega)), (by first | omega | (simp only [rmK, room_1]; omega))⟩ (fun H locs hw hG => ?_)
  have t_o1 := hG.t t_o1
  have t_o2 := hG.t t_o2
  have t_o3 := hG.t t_o3
  have hg := hg.tr hG
  refine lv_istore (lv' := [(6, .int q9.1), (5, .int r5), (0, .ref b), (1, .ref o1), (2, .ref o2), (3, .ref o3), (4, .int x4)]) hx hb dL_law_1997 hl (by decide) rfl (fun ls hl => ?_)
  refine lv_aload_n hx hb dL_law_1999 rfl (lv_at hl 4 rfl) ?_
  obtain ⟨q10, h_q10, h⟩ := h
  refine z_VI E F hw [] (k_X11_thrown l D cy kc o2 q9.2 h_q10 t_o2) t_o2 cf11 mk_X11_thrown vk_X11_thrown ml_L_102 ⟨by decide, by decide⟩ rfl hl.1 rfl (Nat.le_of_ble_eq_true rfl) dL_law_2000 ⟨(by first | omega | (simp only [rmK, room_1]; omega)), (by first | omega | (simp only [rmK, room_1]; omega))⟩ (fun H locs hw hG => ?_)
  have t_o1 := hG.t t_o1
  have t_o2 := hG.t t_o2
  have t_o3 := hG.t t_o3
  have hg := hg.tr hG
  refine lv_iload hx hb dL_law_2003 (lv_at hl 1 rfl) ?_
  refine lv_icmp_eq (tgt := 2010) hx hb dL_law_2005 (by decide) (fun c11 => ?_) (fun c11 => ?_)
  · replace h := h.1 c11
    refine lv_iload hx hb dL_law_2010 (lv_at hl 1 rfl) ?_
    refine lv_if_ne (tgt := 2027) hx hb dL_law_2012 (by decide) (fun c12 => ?_) (fun c12 => ?_)
    · replace h := h.2 c12
      refine lv_goto (tgt := 2580) hx hb dL_law_2027 (by decide) ?_
      exact W.widen (by first | omega | (simp only [rmK, room_1]; omega)) (by first | omega | (simp only [rmK, room_1]; omega)) (kk q10.2 _ _ _ h hw t_o1 t_o2 t_o3 (lv_sub hl [2, 3, 4, 5, 6] rfl))
    · replace h := h.1 c12
      refine lv_aload_n hx hb dL_law_2015 rfl (lv_at hl 5 rfl) ?_
      refine lv_iconst (v := 0) hx hb dL_law_2016 (by decide) ?_
      obtain ⟨c13, h⟩ := h
      refine a_j E F hw t_o3 c13 dL_law_2017 ?_
      refine lv_iload hx hb dL_law_2018 (lv_at hl 0 rfl) ?_
      refine lv_i2l hx hb dL_law_2020 rfl ?_
      refine W.lcmp hx hb dL_law_2021 ?_
      refine lv_if_eq (tgt := 2027) hx hb dL_law_2022 (by decide) (fun c14 => ?_) (fun c14 => ?_)
      · replace h := h.1 c14
        refine lv_goto (tgt := 2580) hx hb dL_law_2027 (by decide) ?_
        exact W.widen (by first | omega | (simp only [rmK, room_1]; omega)) (by first | omega | (simp only [rmK, room_1]; omega)) (kk q10.2 _ _ _ h hw t_o1 t_o2 t_o3 (lv_sub hl [2, 3, 4, 5, 6] rfl))
      · replace h := h.2 c14
        exact h.elim
  · replace h := h.2 c11
    exact h.elim
def gl_23 (L : Nat) (xs : Nat → Int32) (o1 o2 o3 : Nat) (x4 : Int32) (S : PS) (K : PS → Prop) : Prop :=
  (ib (x4 + (1 : Int32)) L = true) ∧ ((ib (x4 + (2 : Int32)) L = true) ∧ ((ib (x4 + (3 : Int32)) L = true) ∧ (g_L_told o1 (xs (Int32.toNatClampNeg (x4 + (1 : Int32)))) (xs (Int32.toNatClampNeg (x4 + (2 : Int32)))) (xs (Int32.toNatClampNeg (x4 + (3 : Int32)))) o3 S (fun (r5 : Int32) (S4 : PS) => ((ib (x4 + (1 : Int32)) L = true) ∧ ((ib (x4 + (2 : Int32)) L = true) ∧ ((ib (x4 + (3 : Int32)) L = true) ∧ (∃ q9, (f_X11_told o2 (xs (Int32.toNatClampNeg (x4 + (1 : Int32)))) (xs (Int32.toNatClampNeg (x4 + (2 : Int32)))) (xs (Int32.toNatClampNeg (x4 + (3 : Int32)))) S4) = some q9 ∧ (∃ q10, (f_X11_thrown o2 q9.2) = some q10 ∧ (((q10.1 = r5 → (((r5 = (0 : Int32) → ((ib (0 : Int32) (sN q10.2 o3) = true) ∧ ((((lg_cmp (sJ q10.2 o3 (Int32.toNatClampNeg (0 : Int32))) (Int32.toInt64 q9.1)) = (0 : Int32) → (K q10.2)) ∧ (¬ (lg_cmp (sJ q10.2 o3 (Int32.toNatClampNeg (0 : Int32))) (Int32.toInt64 q9.1)) = (0 : Int32) → (False)))))) ∧ (¬ r5 = (0 : Int32) → (K q10.2))))) ∧ (¬ q10.1 = r5 → (False)))))))))))))
set_option maxHeartbeats 4000000 in
theorem lc_23 {p : Program} {l : Launch} {e : Env} {s : State} {m : MethodId} {args : Array Value} {below : List Frame} {meth : Method} {c : Code} {H : Heap} {locs : List Loc} {ls : Array Slot} {Q : State → Prop} {D : va_G} {cy : Nat → ClassId} {kc : Nat → Nat} {A : Nat → Prop} {b L : Nat} {xs : Nat → Int32} {c0 s0 : Nat} (hst : l.stackTraces = false) (E : CallFix p m c cL_law 8 s args LW RL) (F : Fx D cy kc A s) (hX : va_X b L xs s s.heap) (hbl : b < s.heap.size) (hbA : ¬ A b) (o1 o2 o3 : Nat) (x4 : Int32) (S : PS) {K : PS → Prop} (h : gl_23 L xs o1 o2 o3 x4 S K) (hc : c0 + 30 ≤ 601024) (hs : s0 + 9152 ≤ 7293034) (hw : Wd D cy A s H locs S) (t_o1 : tD S o1 10) (t_o2 : tD S o2 11) (t_o3 : tD S o3 14) (hl : lv_has ls 8 [(0, .ref b), (1, .ref o1), (2, .ref o2), (3, .ref o3), (4, .int x4)])
    (kk : ∀ (S1 : PS) (H : Heap) (locs : List Loc) (ls : Array Slot), K S1 → Wd D cy A s H locs S1 → tD S1 o1 10 → tD S1 o2 11 → tD S1 o3 14 → lv_has ls 8 [(0, .ref b), (1, .ref o1), (2, .ref o2), (3, .ref o3), (4, .int x4)] → W p l e room_1 s m args below meth c H locs (c0 + 30) (s0 + 9152) Q (F0 m 2580 ls [])) : W p l e room_1 s m args below meth c H locs c0 s0 Q (F0 m 2030 ls []) := by
  have hx := E.1
  have hb := E.2.1
  have hg : Gr S S := Gr.rf
  rw [gl_23] at h
  refine lv_aload_n hx hb dL_law_2030 rfl (lv_at hl 1 rfl) ?_
  refine lv_aload_n hx hb dL_law_2031 rfl (lv_at hl 0 rfl) ?_
  refine lv_iload hx hb dL_law_2032 (lv_at hl 4 rfl) ?_
  refine lv_iconst (v := 1) hx hb dL_law_2034 (by decide) ?_
  refine lv_iadd hx hb dL_law_2035 ?_
  obtain ⟨c1, h⟩ := h
  refine va_sld hx hb hX hbl hbA hw.2.2 (ib_in c1) dL_law_2036 ?_
  refine lv_aload_n hx hb dL_law_2037 rfl (lv_at hl 0 rfl) ?_
  refine lv_iload hx hb dL_law_2038 (lv_at hl 4 rfl) ?_
  refine lv_iconst (v := 2) hx hb dL_law_2040 (by decide) ?_
  refine lv_iadd hx hb dL_law_2041 ?_
  obtain ⟨c2, h⟩ := h
  refine va_sld hx hb hX hbl hbA hw.2.2 (ib_in c2) dL_law_2042 ?_
  refine lv_aload_n hx hb dL_law_2043 rfl (lv_at hl 0 rfl) ?_
  refine lv_iload hx hb dL_law_2044 (lv_at hl 4 rfl) ?_
  refine lv_iconst (v := 3) hx hb dL_law_2046 (by decide) ?_
  refine lv_iadd hx hb dL_law_2047 ?_
  obtain ⟨c3, h⟩ := h
  refine va_sld hx hb hX hbl hbA hw.2.2 (ib_in c3) dL_law_2048 ?_
  refine lv_aload_n hx hb dL_law_2049 rfl (lv_at hl 3 rfl) ?_
  refine l_SI E F hw [.ref o1, .int (xs (Int32.toNatClampNeg (x4 + (1 : Int32)))), .int (xs (Int32.toNatClampNeg (x4 + (2 : Int32)))), .int (xs (Int32.toNatClampNeg (x4 + (3 : Int32)))), .ref o3] (k_L_told l hst D cy kc o1 (xs (Int32.toNatClampNeg (x4 + (1 : Int32)))) (xs (Int32.toNatClampNeg (x4 + (2 : Int32)))) (xs (Int32.toNatClampNeg (x4 + (3 : Int32)))) o3 S h t_o1 t_o3) lk_L_told ml_L_178 ⟨by decide, by decide⟩ rfl hl.1 rfl (Nat.le_of_ble_eq_true rfl) dL_law_2050 ⟨(by first | omega | (simp only [rmK, room_1]; omega)), (by first | omega | (simp only [rmK, room_1]; omega))⟩ (fun r5 S4 H locs h hw hG => ?_)
  have t_o1 := hG.t t_o1
  have t_o2 := hG.t t_o2
  have t_o3 := hG.t t_o3
  have hg := hg.tr hG
  refine lv_istore (lv' := [(5, .int r5), (0, .ref b), (1, .ref o1), (2, .ref o2), (3, .ref o3), (4, .int x4)]) hx hb dL_law_2053 hl (by decide) rfl (fun ls hl => ?_)
  refine lv_aload_n hx hb dL_law_2055 rfl (lv_at hl 3 rfl) ?_
  refine lv_aload_n hx hb dL_law_2056 rfl (lv_at hl 1 rfl) ?_
  refine lv_iload hx hb dL_law_2057 (lv_at hl 5 rfl) ?_
  refine lv_iconst (v := 1) hx hb dL_law_2059 (by decide) ?_
  refine lv_iadd hx hb dL_law_2060 ?_
  obtain ⟨c6, h⟩ := h
  refine va_sld hx hb hX hbl hbA hw.2.2 (ib_in c6) dL_law_2061 ?_
  refine lv_aload_n hx hb dL_law_2062 rfl (lv_at hl 1 rfl) ?_
  refine lv_iload hx hb dL_law_2063 (lv_at hl 5 rfl) ?_
  refine lv_iconst (v := 2) hx hb dL_law_2065 (by decide) ?_
  refine lv_iadd hx hb dL_law_2066 ?_
  obtain ⟨c7, h⟩ := h
  refine va_sld hx hb hX hbl hbA hw.2.2 (ib_in c7) dL_law_2067 ?_
  refine lv_aload_n hx hb dL_law_2068 rfl (lv_at hl 1 rfl) ?_
  refine lv_iload hx hb dL_law_2069 (lv_at hl 5 rfl) ?_
  refine lv_iconst (v := 3) hx hb dL_law_2071 (by decide) ?_
  refine lv_iadd hx hb dL_law_2072 ?_
  obtain ⟨c8, h⟩ := h
  refine va_sld hx hb hX hbl hbA hw.2.2 (ib_in c8) dL_law_2073 ?_
  obtain ⟨q9, h_q9, h⟩ := h
  refine z_VI E F hw [.int (xs (Int32.toNatClampNeg (x4 + (1 : Int32)))), .int (xs (Int32.toNatClampNeg (x4 + (2 : Int32)))), .int (xs (Int32.toNatClampNeg (x4 + (3 : Int32))))] (k_X11_told l D cy kc o2 (xs (Int32.toNatClampNeg (x4 + (1 : Int32)))) (xs (Int32.toNatClampNeg (x4 + (2 : Int32)))) (xs (Int32.toNatClampNeg (x4 + (3 : Int32)))) S4 h_q9 t_o2) t_o2 cf11 mk_X11_told vk_X11_told ml_L_180 ⟨by decide, by decide⟩ rfl hl.1 rfl (Nat.le_of_ble_eq_true rfl) dL_law_2074 ⟨(by first | omega | (simp only [rmK, room_1]; omega)), (by first | omega | (simp only [rmK, room_1]; omega))⟩ (fun H locs hw hG => ?_)
  have t_o1 := hG.t t_o1
  have t_o2 := hG.t t_o2
  have t_o3 := hG.t t_o3
  have hg := hg.tr hG
  refine lv_istore (lv' := [(6, .int q9.1), (5, .int r5), (0, .ref b), (1, .ref o1), (2, .ref o2), (3, .ref o3), (4, .int x4)]) hx hb dL_law_2077 hl (by decide) rfl (fun ls hl => ?_)
  refine lv_aload_n hx hb dL_law_2079 rfl (lv_at hl 4 rfl) ?_
  obtain ⟨q10, h_q10, h⟩ := h
  refine z_VI E F hw [] (k_X11_thrown l D cy kc o2 q9.2 h_q10 t_o2) t_o2 cf11 mk_X11_thrown vk_X11_thrown ml_L_102 ⟨by decide, by decide⟩ rfl hl.1 rfl (Nat.le_of_ble_eq_true rfl) dL_law_2080 ⟨(by first | omega | (simp only [rmK, room_1]; omega)), (by first | omega | (simp only [rmK, room_1]; omega))⟩ (fun H locs hw hG => ?_)
  have t_o1 := hG.t t_o1
  have t_o2 := hG.t t_o2
  have t_o3 := hG.t t_o3
  have hg := hg.tr hG
  refine lv_iload hx hb dL_law_2083 (lv_at hl 1 rfl) ?_
  refine lv_icmp_eq (tgt := 2090) hx hb dL_law_2085 (by decide) (fun c11 => ?_) (fun c11 => ?_)
  · replace h := h.1 c11
    refine lv_iload hx hb dL_law_2090 (lv_at hl 1 rfl) ?_
    refine lv_if_ne (tgt := 2107) hx hb dL_law_2092 (by decide) (fun c12 => ?_) (fun c12 => ?_)
    · replace h := h.2 c12
      refine lv_goto (tgt := 2580) hx hb dL_law_2107 (by decide) ?_
      exact W.widen (by first | omega | (simp only [rmK, room_1]; omega)) (by first | omega | (simp only [rmK, room_1]; omega)) (kk q10.2 _ _ _ h hw t_o1 t_o2 t_o3 (lv_sub hl [2, 3, 4, 5, 6] rfl))
    · replace h := h.1 c12
      refine lv_aload_n hx hb dL_law_2095 rfl (lv_at hl 5 rfl) ?_
      refine lv_iconst (v := 0) hx hb dL_law_2096 (by decide) ?_
      obtain ⟨c13, h⟩ := h
      refine a_j E F hw t_o3 c13 dL_law_2097 ?_
      refine lv_iload hx hb dL_law_2098 (lv_at hl 0 rfl) ?_
      refine lv_i2l hx hb dL_law_2100 rfl ?_
      refine W.lcmp hx hb dL_law_2101 ?_
      refine lv_if_eq (tgt := 2107) hx hb dL_law_2102 (by decide) (fun c14 => ?_) (fun c14 => ?_)
      · replace h := h.1 c14
        refine lv_goto (tgt := 2580) hx hb dL_law_2107 (by decide) ?_
        exact W.widen (by first | omega | (simp only [rmK, room_1]; omega)) (by first | omega | (simp only [rmK, room_1]; omega)) (kk q10.2 _ _ _ h hw t_o1 t_o2 t_o3 (lv_sub hl [2, 3, 4, 5, 6] rfl))
      · replace h := h.2 c14
        exact h.elim
  · replace h := h.2 c11
    exact h.elim
def gl_24 (L : Nat) (xs : Nat → Int32) (o1 o2 o3 : Nat) (x4 : Int32) (S : PS) (K : PS → Prop) : Prop :=
  (ib (x4 + (1 : Int32)) L = true) ∧ (∃ q2, (f_X10_bestRule o1 (xs (Int32.toNatClampNeg (x4 + (1 : Int32)))) S) = some q2 ∧ ((ib (x4 + (1 : Int32)) L = true) ∧ (∃ q4, (f_X11_bestRule o2 (xs (Int32.toNatClampNeg (x4 + (1 : Int32)))) q2.2) = some q4 ∧ (((q2.1 = q4.1 → (K q4.2)) ∧ (¬ q2.1 = q4.1 → (False)))))))
set_option maxHeartbeats 4000000 in
theorem lc_24 {p : Program} {l : Launch} {e : Env} {s : State} {m : MethodId} {args : Array Value} {below : List Frame} {meth : Method} {c : Code} {H : Heap} {locs : List Loc} {ls : Array Slot} {Q : State → Prop} {D : va_G} {cy : Nat → ClassId} {kc : Nat → Nat} {A : Nat → Prop} {b L : Nat} {xs : Nat → Int32} {c0 s0 : Nat} (hst : l.stackTraces = false) (E : CallFix p m c cL_law 8 s args LW RL) (F : Fx D cy kc A s) (hX : va_X b L xs s s.heap) (hbl : b < s.heap.size) (hbA : ¬ A b) (o1 o2 o3 : Nat) (x4 : Int32) (S : PS) {K : PS → Prop} (h : gl_24 L xs o1 o2 o3 x4 S K) (hc : c0 + 30 ≤ 601024) (hs : s0 + 9152 ≤ 7293034) (hw : Wd D cy A s H locs S) (t_o1 : tD S o1 10) (t_o2 : tD S o2 11) (t_o3 : tD S o3 14) (hl : lv_has ls 8 [(0, .ref b), (1, .ref o1), (2, .ref o2), (3, .ref o3), (4, .int x4)])
    (kk : ∀ (S1 : PS) (H : Heap) (locs : List Loc) (ls : Array Slot), K S1 → Wd D cy A s H locs S1 → tD S1 o1 10 → tD S1 o2 11 → tD S1 o3 14 → lv_has ls 8 [(0, .ref b), (1, .ref o1), (2, .ref o2), (3, .ref o3), (4, .int x4)] → W p l e room_1 s m args below meth c H locs (c0 + 30) (s0 + 9152) Q (F0 m 2580 ls [])) : W p l e room_1 s m args below meth c H locs c0 s0 Q (F0 m 2110 ls []) := by
  have hx := E.1
  have hb := E.2.1
  have hg : Gr S S := Gr.rf
  rw [gl_24] at h
  refine lv_aload_n hx hb dL_law_2110 rfl (lv_at hl 1 rfl) ?_
  refine lv_aload_n hx hb dL_law_2111 rfl (lv_at hl 0 rfl) ?_
  refine lv_iload hx hb dL_law_2112 (lv_at hl 4 rfl) ?_
  refine lv_iconst (v := 1) hx hb dL_law_2114 (by decide) ?_
  refine lv_iadd hx hb dL_law_2115 ?_
  obtain ⟨c1, h⟩ := h
  refine va_sld hx hb hX hbl hbA hw.2.2 (ib_in c1) dL_law_2116 ?_
  obtain ⟨q2, h_q2, h⟩ := h
  refine z_VI E F hw [.int (xs (Int32.toNatClampNeg (x4 + (1 : Int32))))] (k_X10_bestRule l D cy kc o1 (xs (Int32.toNatClampNeg (x4 + (1 : Int32)))) S h_q2 t_o1) t_o1 cf10 mk_X10_bestRule vk_X10_bestRule ml_L_181 ⟨by decide, by decide⟩ rfl hl.1 rfl (Nat.le_of_ble_eq_true rfl) dL_law_2117 ⟨(by first | omega | (simp only [rmK, room_1]; omega)), (by first | omega | (simp only [rmK, room_1]; omega))⟩ (fun H locs hw hG => ?_)
  have t_o1 := hG.t t_o1
  have t_o2 := hG.t t_o2
  have t_o3 := hG.t t_o3
  have hg := hg.tr hG
  refine lv_aload_n hx hb dL_law_2120 rfl (lv_at hl 2 rfl) ?_
  refine lv_aload_n hx hb dL_law_2121 rfl (lv_at hl 0 rfl) ?_
  refine lv_iload hx hb dL_law_2122 (lv_at hl 4 rfl) ?_
  refine lv_iconst (v := 1) hx hb dL_law_2124 (by decide) ?_
  refine lv_iadd hx hb dL_law_2125 ?_
  obtain ⟨c3, h⟩ := h
  refine va_sld hx hb hX hbl hbA hw.2.2 (ib_in c3) dL_law_2126 ?_
  obtain ⟨q4, h_q4, h⟩ := h
  refine z_VI E F hw [.int (xs (Int32.toNatClampNeg (x4 + (1 : Int32))))] (k_X11_bestRule l D cy kc o2 (xs (Int32.toNatClampNeg (x4 + (1 : Int32)))) q2.2 h_q4 t_o2) t_o2 cf11 mk_X11_bestRule vk_X11_bestRule ml_L_184 ⟨by decide, by decide⟩ rfl hl.1 rfl (Nat.le_of_ble_eq_true rfl) dL_law_2127 ⟨(by first | omega | (simp only [rmK, room_1]; omega)), (by first | omega | (simp only [rmK, room_1]; omega))⟩ (fun H locs hw hG => ?_)
  have t_o1 := hG.t t_o1
  have t_o2 := hG.t t_o2
  have t_o3 := hG.t t_o3
  have hg := hg.tr hG
  refine lv_icmp_eq (tgt := 2580) hx hb dL_law_2130 (by decide) (fun c5 => ?_) (fun c5 => ?_)
  · replace h := h.1 c5
    exact W.widen (by first | omega | (simp only [rmK, room_1]; omega)) (by first | omega | (simp only [rmK, room_1]; omega)) (kk q4.2 _ _ _ h hw t_o1 t_o2 t_o3 (lv_sub hl [0, 1, 2, 3, 4] rfl))
  · replace h := h.2 c5
    exact h.elim
def gl_25 (L : Nat) (xs : Nat → Int32) (o1 o2 o3 : Nat) (x4 : Int32) (S : PS) (K : PS → Prop) : Prop :=
  (ib (x4 + (1 : Int32)) L = true) ∧ (∃ q2, (f_X10_brought o1 (xs (Int32.toNatClampNeg (x4 + (1 : Int32)))) S) = some q2 ∧ ((ib (x4 + (1 : Int32)) L = true) ∧ (∃ q4, (f_X11_brought o2 (xs (Int32.toNatClampNeg (x4 + (1 : Int32)))) q2.2) = some q4 ∧ (((q2.1 = q4.1 → (K q4.2)) ∧ (¬ q2.1 = q4.1 → (False)))))))
set_option maxHeartbeats 4000000 in
theorem lc_25 {p : Program} {l : Launch} {e : Env} {s : State} {m : MethodId} {args : Array Value} {below : List Frame} {meth : Method} {c : Code} {H : Heap} {locs : List Loc} {ls : Array Slot} {Q : State → Prop} {D : va_G} {cy : Nat → ClassId} {kc : Nat → Nat} {A : Nat → Prop} {b L : Nat} {xs : Nat → Int32} {c0 s0 : Nat} (hst : l.stackTraces = false) (E : CallFix p m c cL_law 8 s args LW RL) (F : Fx D cy kc A s) (hX : va_X b L xs s s.heap) (hbl : b < s.heap.size) (hbA : ¬ A b) (o1 o2 o3 : Nat) (x4 : Int32) (S : PS) {K : PS → Prop} (h : gl_25 L xs o1 o2 o3 x4 S K) (hc : c0 + 30 ≤ 601024) (hs : s0 + 9152 ≤ 7293034) (hw : Wd D cy A s H locs S) (t_o1 : tD S o1 10) (t_o2 : tD S o2 11) (t_o3 : tD S o3 14) (hl : lv_has ls 8 [(0, .ref b), (1, .ref o1), (2, .ref o2), (3, .ref o3), (4, .int x4)])
    (kk : ∀ (S1 : PS) (H : Heap) (locs : List Loc) (ls : Array Slot), K S1 → Wd D cy A s H locs S1 → tD S1 o1 10 → tD S1 o2 11 → tD S1 o3 14 → lv_has ls 8 [(0, .ref b), (1, .ref o1), (2, .ref o2), (3, .ref o3), (4, .int x4)] → W p l e room_1 s m args below meth c H locs (c0 + 30) (s0 + 9152) Q (F0 m 2580 ls [])) : W p l e room_1 s m args below meth c H locs c0 s0 Q (F0 m 2135 ls []) := by
  have hx := E.1
  have hb := E.2.1
  have hg : Gr S S := Gr.rf
  rw [gl_25] at h
  refine lv_aload_n hx hb dL_law_2135 rfl (lv_at hl 1 rfl) ?_
  refine lv_aload_n hx hb dL_law_2136 rfl (lv_at hl 0 rfl) ?_
  refine lv_iload hx hb dL_law_2137 (lv_at hl 4 rfl) ?_
  refine lv_iconst (v := 1) hx hb dL_law_2139 (by decide) ?_
  refine lv_iadd hx hb dL_law_2140 ?_
  obtain ⟨c1, h⟩ := h
  refine va_sld hx hb hX hbl hbA hw.2.2 (ib_in c1) dL_law_2141 ?_
  obtain ⟨q2, h_q2, h⟩ := h
  refine z_VI E F hw [.int (xs (Int32.toNatClampNeg (x4 + (1 : Int32))))] (k_X10_brought l D cy kc o1 (xs (Int32.toNatClampNeg (x4 + (1 : Int32)))) S h_q2 t_o1) t_o1 cf10 mk_X10_brought vk_X10_brought ml_L_185 ⟨by decide, by decide⟩ rfl hl.1 rfl (Nat.le_of_ble_eq_true rfl) dL_law_2142 ⟨(by first | omega | (simp only [rmK, room_1]; omega)), (by first | omega | (simp only [rmK, room_1]; omega))⟩ (fun H locs hw hG => ?_)
  have t_o1 := hG.t t_o1
  have t_o2 := hG.t t_o2
  have t_o3 := hG.t t_o3
  have hg := hg.tr hG
  refine lv_aload_n hx hb dL_law_2145 rfl (lv_at hl 2 rfl) ?_
  refine lv_aload_n hx hb dL_law_2146 rfl (lv_at hl 0 rfl) ?_
  refine lv_iload hx hb dL_law_2147 (lv_at hl 4 rfl) ?_
  refine lv_iconst (v := 1) hx hb dL_law_2149 (by decide) ?_
  refine lv_iadd hx hb dL_law_2150 ?_
  obtain ⟨c3, h⟩ := h
  refine va_sld hx hb hX hbl hbA hw.2.2 (ib_in c3) dL_law_2151 ?_
  obtain ⟨q4, h_q4, h⟩ := h
  refine z_VI E F hw [.int (xs (Int32.toNatClampNeg (x4 + (1 : Int32))))] (k_X11_brought l D cy kc o2 (xs (Int32.toNatClampNeg (x4 + (1 : Int32)))) q2.2 h_q4 t_o2) t_o2 cf11 mk_X11_brought vk_X11_brought ml_L_188 ⟨by decide, by decide⟩ rfl hl.1 rfl (Nat.le_of_ble_eq_true rfl) dL_law_2152 ⟨(by first | omega | (simp only [rmK, room_1]; omega)), (by first | omega | (simp only [rmK, room_1]; omega))⟩ (fun H locs hw hG => ?_)
  have t_o1 := hG.t t_o1
  have t_o2 := hG.t t_o2
  have t_o3 := hG.t t_o3
  have hg := hg.tr hG
  refine lv_icmp_eq (tgt := 2580) hx hb dL_law_2155 (by decide) (fun c5 => ?_) (fun c5 => ?_)
  · replace h := h.1 c5
    exact W.widen (by first | omega | (simp only [rmK, room_1]; omega)) (by first | omega | (simp only [rmK, room_1]; omega)) (kk q4.2 _ _ _ h hw t_o1 t_o2 t_o3 (lv_sub hl [0, 1, 2, 3, 4] rfl))
  · replace h := h.2 c5
    exact h.elim
def gl_26 (L : Nat) (xs : Nat → Int32) (o1 o2 o3 : Nat) (x4 : Int32) (S : PS) (K : PS → Prop) : Prop :=
  (ib (x4 + (1 : Int32)) L = true) ∧ ((ib (x4 + (2 : Int32)) L = true) ∧ (∃ q3, (f_X10_rowFor o1 (xs (Int32.toNatClampNeg (x4 + (1 : Int32)))) (xs (Int32.toNatClampNeg (x4 + (2 : Int32)))) S) = some q3 ∧ ((ib (x4 + (1 : Int32)) L = true) ∧ ((ib (x4 + (2 : Int32)) L = true) ∧ (∃ q6, (f_X11_rowFor o2 (xs (Int32.toNatClampNeg (x4 + (1 : Int32)))) (xs (Int32.toNatClampNeg (x4 + (2 : Int32)))) q3.2) = some q6 ∧ (((q3.1 = q6.1 → (K q6.2)) ∧ (¬ q3.1 = q6.1 → (False)))))))))
set_option maxHeartbeats 4000000 in
theorem lc_26 {p : Program} {l : Launch} {e : Env} {s : State} {m : MethodId} {args : Array Value} {below : List Frame} {meth : Method} {c : Code} {H : Heap} {locs : List Loc} {ls : Array Slot} {Q : State → Prop} {D : va_G} {cy : Nat → ClassId} {kc : Nat → Nat} {A : Nat → Prop} {b L : Nat} {xs : Nat → Int32} {c0 s0 : Nat} (hst : l.stackTraces = false) (E : CallFix p m c cL_law 8 s args LW RL) (F : Fx D cy kc A s) (hX : va_X b L xs s s.heap) (hbl : b < s.heap.size) (hbA : ¬ A b) (o1 o2 o3 : Nat) (x4 : Int32) (S : PS) {K : PS → Prop} (h : gl_26 L xs o1 o2 o3 x4 S K) (hc : c0 + 30 ≤ 601024) (hs : s0 + 9152 ≤ 7293034) (hw : Wd D cy A s H locs S) (t_o1 : tD S o1 10) (t_o2 : tD S o2 11) (t_o3 : tD S o3 14) (hl : lv_has ls 8 [(0, .ref b), (1, .ref o1), (2, .ref o2), (3, .ref o3), (4, .int x4)])
    (kk : ∀ (S1 : PS) (H : Heap) (locs : List Loc) (ls : Array Slot), K S1 → Wd D cy A s H locs S1 → tD S1 o1 10 → tD S1 o2 11 → tD S1 o3 14 → lv_has ls 8 [(0, .ref b), (1, .ref o1), (2, .ref o2), (3, .ref o3), (4, .int x4)] → W p l e room_1 s m args below meth c H locs (c0 + 30) (s0 + 9152) Q (F0 m 2580 ls [])) : W p l e room_1 s m args below meth c H locs c0 s0 Q (F0 m 2160 ls []) := by
  have hx := E.1
  have hb := E.2.1
  have hg : Gr S S := Gr.rf
  rw [gl_26] at h
  refine lv_aload_n hx hb dL_law_2160 rfl (lv_at hl 1 rfl) ?_
  refine lv_aload_n hx hb dL_law_2161 rfl (lv_at hl 0 rfl) ?_
  refine lv_iload hx hb dL_law_2162 (lv_at hl 4 rfl) ?_
  refine lv_iconst (v := 1) hx hb dL_law_2164 (by decide) ?_
  refine lv_iadd hx hb dL_law_2165 ?_
  obtain ⟨c1, h⟩ := h
  refine va_sld hx hb hX hbl hbA hw.2.2 (ib_in c1) dL_law_2166 ?_
  refine lv_aload_n hx hb dL_law_2167 rfl (lv_at hl 0 rfl) ?_
  refine lv_iload hx hb dL_law_2168 (lv_at hl 4 rfl) ?_
  refine lv_iconst (v := 2) hx hb dL_law_2170 (by decide) ?_
  refine lv_iadd hx hb dL_law_2171 ?_
  obtain ⟨c2, h⟩ := h
  refine va_sld hx hb hX hbl hbA hw.2.2 (ib_in c2) dL_law_2172 ?_
  obtain ⟨q3, h_q3, h⟩ := h
  refine z_VI E F hw [.int (xs (Int32.toNatClampNeg (x4 + (1 : Int32)))), .int (xs (Int32.toNatClampNeg (x4 + (2 : Int32))))] (k_X10_rowFor l D cy kc o1 (xs (Int32.toNatClampNeg (x4 + (1 : Int32)))) (xs (Int32.toNatClampNeg (x4 + (2 : Int32)))) S h_q3 t_o1) t_o1 cf10 mk_X10_rowFor vk_X10_rowFor ml_L_189 ⟨by decide, by decide⟩ rfl hl.1 rfl (Nat.le_of_ble_eq_true rfl) dL_law_2173 ⟨(by first | omega | (simp only [rmK, room_1]; omega)), (by first | omega | (simp only [rmK, room_1]; omega))⟩ (fun H locs hw hG => ?_)
  have t_o1 := hG.t t_o1
  have t_o2 := hG.t t_o2
  have t_o3 := hG.t t_o3
  have hg := hg.tr hG
  refine lv_aload_n hx hb dL_law_2176 rfl (lv_at hl 2 rfl) ?_
  refine lv_aload_n hx hb dL_law_2177 rfl (lv_at hl 0 rfl) ?_
  refine lv_iload hx hb dL_law_2178 (lv_at hl 4 rfl) ?_
  refine lv_iconst (v := 1) hx hb dL_law_2180 (by decide) ?_
  refine lv_iadd hx hb dL_law_2181 ?_
  obtain ⟨c4, h⟩ := h
  refine va_sld hx hb hX hbl hbA hw.2.2 (ib_in c4) dL_law_2182 ?_
  refine lv_aload_n hx hb dL_law_2183 rfl (lv_at hl 0 rfl) ?_
  refine lv_iload hx hb dL_law_2184 (lv_at hl 4 rfl) ?_
  refine lv_iconst (v := 2) hx hb dL_law_2186 (by decide) ?_
  refine lv_iadd hx hb dL_law_2187 ?_
  obtain ⟨c5, h⟩ := h
  refine va_sld hx hb hX hbl hbA hw.2.2 (ib_in c5) dL_law_2188 ?_
  obtain ⟨q6, h_q6, h⟩ := h
  refine z_VI E F hw [.int (xs (Int32.toNatClampNeg (x4 + (1 : Int32)))), .int (xs (Int32.toNatClampNeg (x4 + (2 : Int32))))] (k_X11_rowFor l D cy kc o2 (xs (Int32.toNatClampNeg (x4 + (1 : Int32)))) (xs (Int32.toNatClampNeg (x4 + (2 : Int32)))) q3.2 h_q6 t_o2) t_o2 cf11 mk_X11_rowFor vk_X11_rowFor ml_L_192 ⟨by decide, by decide⟩ rfl hl.1 rfl (Nat.le_of_ble_eq_true rfl) dL_law_2189 ⟨(by first | omega | (simp only [rmK, room_1]; omega)), (by first | omega | (simp only [rmK, room_1]; omega))⟩ (fun H locs hw hG => ?_)
  have t_o1 := hG.t t_o1
  have t_o2 := hG.t t_o2
  have t_o3 := hG.t t_o3
  have hg := hg.tr hG
  refine lv_icmp_eq (tgt := 2580) hx hb dL_law_2192 (by decide) (fun c7 => ?_) (fun c7 => ?_)
  · replace h := h.1 c7
    exact W.widen (by first | omega | (simp only [rmK, room_1]; omega)) (by first | omega | (simp only [rmK, room_1]; omega)) (kk q6.2 _ _ _ h hw t_o1 t_o2 t_o3 (lv_sub hl [0, 1, 2, 3, 4] rfl))
  · replace h := h.2 c7
    exact h.elim
def gl_27 (L : Nat) (xs : Nat → Int32) (o1 o2 o3 : Nat) (x4 : Int32) (S : PS) (K : PS → Prop) : Prop :=
  (ib (x4 + (1 : Int32)) L = true) ∧ ((ib (x4 + (2 : Int32)) L = true) ∧ (∃ q3, (f_X10_bestRow o1 (xs (Int32.toNatClampNeg (x4 + (1 : Int32)))) (xs (Int32.toNatClampNeg (x4 + (2 : Int32)))) S) = some q3 ∧ ((ib (x4 + (1 : Int32)) L = true) ∧ ((ib (x4 + (2 : Int32)) L = true) ∧ (∃ q6, (f_X11_bestRow o2 (xs (Int32.toNatClampNeg (x4 + (1 : Int32)))) (xs (Int32.toNatClampNeg (x4 + (2 : Int32)))) q3.2) = some q6 ∧ (((q3.1 = q6.1 → (K q6.2)) ∧ (¬ q3.1 = q6.1 → (False)))))))))
set_option maxHeartbeats 4000000 in
theorem lc_27 {p : Program} {l : Launch} {e : Env} {s : State} {m : MethodId} {args : Array Value} {below : List Frame} {meth : Method} {c : Code} {H : Heap} {locs : List Loc} {ls : Array Slot} {Q : State → Prop} {D : va_G} {cy : Nat → ClassId} {kc : Nat → Nat} {A : Nat → Prop} {b L : Nat} {xs : Nat → Int32} {c0 s0 : Nat} (hst : l.stackTraces = false) (E : CallFix p m c cL_law 8 s args LW RL) (F : Fx D cy kc A s) (hX : va_X b L xs s s.heap) (hbl : b < s.heap.size) (hbA : ¬ A b) (o1 o2 o3 : Nat) (x4 : Int32) (S : PS) {K : PS → Prop} (h : gl_27 L xs o1 o2 o3 x4 S K) (hc : c0 + 30 ≤ 601024) (hs : s0 + 9152 ≤ 7293034) (hw : Wd D cy A s H locs S) (t_o1 : tD S o1 10) (t_o2 : tD S o2 11) (t_o3 : tD S o3 14) (hl : lv_has ls 8 [(0, .ref b), (1, .ref o1), (2, .ref o2), (3, .ref o3), (4, .int x4)])
    (kk : ∀ (S1 : PS) (H : Heap) (locs : List Loc) (ls : Array Slot), K S1 → Wd D cy A s H locs S1 → tD S1 o1 10 → tD S1 o2 11 → tD S1 o3 14 → lv_has ls 8 [(0, .ref b), (1, .ref o1), (2, .ref o2), (3, .ref o3), (4, .int x4)] → W p l e room_1 s m args below meth c H locs (c0 + 30) (s0 + 9152) Q (F0 m 2580 ls [])) : W p l e room_1 s m args below meth c H locs c0 s0 Q (F0 m 2197 ls []) := by
  have hx := E.1
  have hb := E.2.1
  have hg : Gr S S := Gr.rf
  rw [gl_27] at h
  refine lv_aload_n hx hb dL_law_2197 rfl (lv_at hl 1 rfl) ?_
  refine lv_aload_n hx hb dL_law_2198 rfl (lv_at hl 0 rfl) ?_
  refine lv_iload hx hb dL_law_2199 (lv_at hl 4 rfl) ?_
  refine lv_iconst (v := 1) hx hb dL_law_2201 (by decide) ?_
  refine lv_iadd hx hb dL_law_2202 ?_
  obtain ⟨c1, h⟩ := h
  refine va_sld hx hb hX hbl hbA hw.2.2 (ib_in c1) dL_law_2203 ?_
  refine lv_aload_n hx hb dL_law_2204 rfl (lv_at hl 0 rfl) ?_
  refine lv_iload hx hb dL_law_2205 (lv_at hl 4 rfl) ?_
  refine lv_iconst (v := 2) hx hb dL_law_2207 (by decide) ?_
  refine lv_iadd hx hb dL_law_2208 ?_
  obtain ⟨c2, h⟩ := h
  refine va_sld hx hb hX hbl hbA hw.2.2 (ib_in c2) dL_law_2209 ?_
  obtain ⟨q3, h_q3, h⟩ := h
  refine z_VI E F hw [.int (xs (Int32.toNatClampNeg (x4 + (1 : Int32)))), .int (xs (Int32.toNatClampNeg (x4 + (2 : Int32))))] (k_X10_bestRow l D cy kc o1 (xs (Int32.toNatClampNeg (x4 + (1 : Int32)))) (xs (Int32.toNatClampNeg (x4 + (2 : Int32)))) S h_q3 t_o1) t_o1 cf10 mk_X10_bestRow vk_X10_bestRow ml_L_193 ⟨by decide, by decide⟩ rfl hl.1 rfl (Nat.le_of_ble_eq_true rfl) dL_law_2210 ⟨(by first | omega | (simp only [rmK, room_1]; omega)), (by first | omega | (simp only [rmK, room_1]; omega))⟩ (fun H locs hw hG => ?_)
  have t_o1 := hG.t t_o1
  have t_o2 := hG.t t_o2
  have t_o3 := hG.t t_o3
  have hg := hg.tr hG
  refine lv_aload_n hx hb dL_law_2213 rfl (lv_at hl 2 rfl) ?_
  refine lv_aload_n hx hb dL_law_2214 rfl (lv_at hl 0 rfl) ?_
  refine lv_iload hx hb dL_law_2215 (lv_at hl 4 rfl) ?_
  refine lv_iconst (v := 1) hx hb dL_law_2217 (by decide) ?_
  refine lv_iadd hx hb dL_law_2218 ?_
  obtain ⟨c4, h⟩ := h
  refine va_sld hx hb hX hbl hbA hw.2.2 (ib_in c4) dL_law_2219 ?_
  refine lv_aload_n hx hb dL_law_2220 rfl (lv_at hl 0 rfl) ?_
  refine lv_iload hx hb dL_law_2221 (lv_at hl 4 rfl) ?_
  refine lv_iconst (v := 2) hx hb dL_law_2223 (by decide) ?_
  refine lv_iadd hx hb dL_law_2224 ?_
  obtain ⟨c5, h⟩ := h
  refine va_sld hx hb hX hbl hbA hw.2.2 (ib_in c5) dL_law_2225 ?_
  obtain ⟨q6, h_q6, h⟩ := h
  refine z_VI E F hw [.int (xs (Int32.toNatClampNeg (x4 + (1 : Int32)))), .int (xs (Int32.toNatClampNeg (x4 + (2 : Int32))))] (k_X11_bestRow l D cy kc o2 (xs (Int32.toNatClampNeg (x4 + (1 : Int32)))) (xs (Int32.toNatClampNeg (x4 + (2 : Int32)))) q3.2 h_q6 t_o2) t_o2 cf11 mk_X11_bestRow vk_X11_bestRow ml_L_196 ⟨by decide, by decide⟩ rfl hl.1 rfl (Nat.le_of_ble_eq_true rfl) dL_law_2226 ⟨(by first | omega | (simp only [rmK, room_1]; omega)), (by first | omega | (simp only [rmK, room_1]; omega))⟩ (fun H locs hw hG => ?_)
  have t_o1 := hG.t t_o1
  have t_o2 := hG.t t_o2
  have t_o3 := hG.t t_o3
  have hg := hg.tr hG
  refine lv_icmp_eq (tgt := 2580) hx hb dL_law_2229 (by decide) (fun c7 => ?_) (fun c7 => ?_)
  · replace h := h.1 c7
    exact W.widen (by first | omega | (simp only [rmK, room_1]; omega)) (by first | omega | (simp only [rmK, room_1]; omega)) (kk q6.2 _ _ _ h hw t_o1 t_o2 t_o3 (lv_sub hl [0, 1, 2, 3, 4] rfl))
  · replace h := h.2 c7
    exact h.elim
def gl_28 (L : Nat) (xs : Nat → Int32) (o1 o2 o3 : Nat) (x4 : Int32) (S : PS) (K : PS → Prop) : Prop :=
  (ib (x4 + (1 : Int32)) L = true) ∧ ((ib (x4 + (2 : Int32)) L = true) ∧ ((ib (x4 + (3 : Int32)) L = true) ∧ (∃ q4, (f_X10_row o1 (xs (Int32.toNatClampNeg (x4 + (1 : Int32)))) (xs (Int32.toNatClampNeg (x4 + (2 : Int32)))) (xs (Int32.toNatClampNeg (x4 + (3 : Int32)))) S) = some q4 ∧ ((ib (x4 + (1 : Int32)) L = true) ∧ ((ib (x4 + (2 : Int32)) L = true) ∧ ((ib (x4 + (3 : Int32)) L = true) ∧ (∃ q8, (f_X11_row o2 (xs (Int32.toNatClampNeg (x4 + (1 : Int32)))) (xs (Int32.toNatClampNeg (x4 + (2 : Int32)))) (xs (Int32.toNatClampNeg (x4 + (3 : Int32)))) q4.2) = some q8 ∧ (((q4.1 = q8.1 → (K q8.2)) ∧ (¬ q4.1 = q8.1 → (False)))))))))))
set_option maxHeartbeats 4000000 in
theorem lc_28 {p : Program} {l : Launch} {e : Env} {s : State} {m : MethodId} {args : Array Value} {below : List Frame} {meth : Method} {c : Code} {H : Heap} {locs : List Loc} {ls : Array Slot} {Q : State → Prop} {D : va_G} {cy : Nat → ClassId} {kc : Nat → Nat} {A : Nat → Prop} {b L : Nat} {xs : Nat → Int32} {c0 s0 : Nat} (hst : l.stackTraces = false) (E : CallFix p m c cL_law 8 s args LW RL) (F : Fx D cy kc A s) (hX : va_X b L xs s s.heap) (hbl : b < s.heap.size) (hbA : ¬ A b) (o1 o2 o3 : Nat) (x4 : Int32) (S : PS) {K : PS → Prop} (h : gl_28 L xs o1 o2 o3 x4 S K) (hc : c0 + 30 ≤ 601024) (hs : s0 + 9152 ≤ 7293034) (hw : Wd D cy A s H locs S) (t_o1 : tD S o1 10) (t_o2 : tD S o2 11) (t_o3 : tD S o3 14) (hl : lv_has ls 8 [(0, .ref b), (1, .ref o1), (2, .ref o2), (3, .ref o3), (4, .int x4)])
    (kk : ∀ (S1 : PS) (H : Heap) (locs : List Loc) (ls : Array Slot), K S1 → Wd D cy A s H locs S1 → tD S1 o1 10 → tD S1 o2 11 → tD S1 o3 14 → lv_has ls 8 [(0, .ref b), (1, .ref o1), (2, .ref o2), (3, .ref o3), (4, .int x4)] → W p l e room_1 s m args below meth c H locs (c0 + 30) (s0 + 9152) Q (F0 m 2580 ls [])) : W p l e room_1 s m args below meth c H locs c0 s0 Q (F0 m 2234 ls []) := by
  have hx := E.1
  have hb := E.2.1
  have hg : Gr S S := Gr.rf
  rw [gl_28] at h
  refine lv_aload_n hx hb dL_law_2234 rfl (lv_at hl 1 rfl) ?_
  refine lv_aload_n hx hb dL_law_2235 rfl (lv_at hl 0 rfl) ?_
  refine lv_iload hx hb dL_law_2236 (lv_at hl 4 rfl) ?_
  refine lv_iconst (v := 1) hx hb dL_law_2238 (by decide) ?_
  refine lv_iadd hx hb dL_law_2239 ?_
  obtain ⟨c1, h⟩ := h
  refine va_sld hx hb hX hbl hbA hw.2.2 (ib_in c1) dL_law_2240 ?_
  refine lv_aload_n hx hb dL_law_2241 rfl (lv_at hl 0 rfl) ?_
  refine lv_iload hx hb dL_law_2242 (lv_at hl 4 rfl) ?_
  refine lv_iconst (v := 2) hx hb dL_law_2244 (by decide) ?_
  refine lv_iadd hx hb dL_law_2245 ?_
  obtain ⟨c2, h⟩ := h
  refine va_sld hx hb hX hbl hbA hw.2.2 (ib_in c2) dL_law_2246 ?_
  refine lv_aload_n hx hb dL_law_2247 rfl (lv_at hl 0 rfl) ?_
  refine lv_iload hx hb dL_law_2248 (lv_at hl 4 rfl) ?_
  refine lv_iconst (v := 3) hx hb dL_law_2250 (by decide) ?_
  refine lv_iadd hx hb dL_law_2251 ?_
  obtain ⟨c3, h⟩ := h
  refine va_sld hx hb hX hbl hbA hw.2.2 (ib_in c3) dL_law_2252 ?_
  obtain ⟨q4, h_q4, h⟩ := h
  refine z_VI E F hw [.int (xs (Int32.toNatClampNeg (x4 + (1 : Int32)))), .int (xs (Int32.toNatClampNeg (x4 + (2 : Int32)))), .int (xs (Int32.toNatClampNeg (x4 + (3 : Int32))))] (k_X10_row l D cy kc o1 (xs (Int32.toNatClampNeg (x4 + (1 : Int32)))) (xs (Int32.toNatClampNeg (x4 + (2 : Int32)))) (xs (Int32.toNatClampNeg (x4 + (3 : Int32)))) S h_q4 t_o1) t_o1 cf10 mk_X10_row vk_X10_row ml_L_197 ⟨by decide, by decide⟩ rfl hl.1 rfl (Nat.le_of_ble_eq_true rfl) dL_law_2253 ⟨(by first | omega | (simp only [rmK, room_1]; omega)), (by first | omega | (simp only [rmK, room_1]; omega))⟩ (fun H locs hw hG => ?_)
  have t_o1 := hG.t t_o1
  have t_o2 := hG.t t_o2
  have t_o3 := hG.t t_o3
  have hg := hg.tr hG
  refine lv_aload_n hx hb dL_law_2256 rfl (lv_at hl 2 rfl) ?_
  refine lv_aload_n hx hb dL_law_2257 rfl (lv_at hl 0 rfl) ?_
  refine lv_iload hx hb dL_law_2258 (lv_at hl 4 rfl) ?_
  refine lv_iconst (v := 1) hx hb dL_law_2260 (by decide) ?_
  refine lv_iadd hx hb dL_law_2261 ?_
  obtain ⟨c5, h⟩ := h
  refine va_sld hx hb hX hbl hbA hw.2.2 (ib_in c5) dL_law_2262 ?_
  refine lv_aload_n hx hb dL_law_2263 rfl (lv_at hl 0 rfl) ?_
  refine lv_iload hx hb dL_law_2264 (lv_at hl 4 rfl) ?_
  refine lv_iconst (v := 2) hx hb dL_law_2266 (by decide) ?_
  refine lv_iadd hx hb dL_law_2267 ?_
  obtain ⟨c6, h⟩ := h
  refine va_sld hx hb hX hbl hbA hw.2.2 (ib_in c6) dL_law_2268 ?_
  refine lv_aload_n hx hb dL_law_2269 rfl (lv_at hl 0 rfl) ?_
  refine lv_iload hx hb dL_law_2270 (lv_at hl 4 rfl) ?_
  refine lv_iconst (v := 3) hx hb dL_law_2272 (by decide) ?_
  refine lv_iadd hx hb dL_law_2273 ?_
  obtain ⟨c7, h⟩ := h
  refine va_sld hx hb hX hbl hbA hw.2.2 (ib_in c7) dL_law_2274 ?_
  obtain ⟨q8, h_q8, h⟩ := h
  refine z_VI E F hw [.int (xs (Int32.toNatClampNeg (x4 + (1 : Int32)))), .int (xs (Int32.toNatClampNeg (x4 + (2 : Int32)))), .int (xs (Int32.toNatClampNeg (x4 + (3 : Int32))))] (k_X11_row l D cy kc o2 (xs (Int32.toNatClampNeg (x4 + (1 : Int32)))) (xs (Int32.toNatClampNeg (x4 + (2 : Int32)))) (xs (Int32.toNatClampNeg (x4 + (3 : Int32)))) q4.2 h_q8 t_o2) t_o2 cf11 mk_X11_row vk_X11_row ml_L_200 ⟨by decide, by decide⟩ rfl hl.1 rfl (Nat.le_of_ble_eq_true rfl) dL_law_2275 ⟨(by first | omega | (simp only [rmK, room_1]; omega)), (by first | omega | (simp only [rmK, room_1]; omega))⟩ (fun H locs hw hG => ?_)
  have t_o1 := hG.t t_o1
  have t_o2 := hG.t t_o2
  have t_o3 := hG.t t_o3
  have hg := hg.tr hG
  refine lv_icmp_eq (tgt := 2580) hx hb dL_law_2278 (by decide) (fun c9 => ?_) (fun c9 => ?_)
  · replace h := h.1 c9
    exact W.widen (by first | omega | (simp only [rmK, room_1]; omega)) (by first | omega | (simp only [rmK, room_1]; omega)) (kk q8.2 _ _ _ h hw t_o1 t_o2 t_o3 (lv_sub hl [0, 1, 2, 3, 4] rfl))
  · replace h := h.2 c9
    exact h.elim
def gl_29 (L : Nat) (xs : Nat → Int32) (o1 o2 o3 : Nat) (x4 : Int32) (S : PS) (K : PS → Prop) : Prop :=
  ∃ q1, (f_X10_clear o1 S) = some q1 ∧ (∃ q2, (f_X11_clear o2 q1.2) = some q2 ∧ (((q1.1 = q2.1 → (K q2.2)) ∧ (¬ q1.1 = q2.1 → (False)))))
set_option maxHeartbeats 4000000 in
theorem lc_29 {p : Program} {l : Launch} {e : Env} {s : State} {m : MethodId} {args : Array Value} {below : List Frame} {meth : Method} {c : Code} {H : Heap} {locs : List Loc} {ls : Array Slot} {Q : State → Prop} {D : va_G} {cy : Nat → ClassId} {kc : Nat → Nat} {A : Nat → Prop} {b L : Nat} {xs : Nat → Int32} {c0 s0 : Nat} (hst : l.stackTraces = false) (E : CallFix p m c cL_law 8 s args LW RL) (F : Fx D cy kc A s) (hX : va_X b L xs s s.heap) (hbl : b < s.heap.size) (hbA : ¬ A b) (o1 o2 o3 : Nat) (x4 : Int32) (S : PS) {K : PS → Prop} (h : gl_29 L xs o1 o2 o3 x4 S K) (hc : c0 + 30 ≤ 601024) (hs : s0 + 9152 ≤ 7293034) (hw : Wd D cy A s H locs S) (t_o1 : tD S o1 10) (t_o2 : tD S o2 11) (t_o3 : tD S o3 14) (hl : lv_has ls 8 [(0, .ref b), (1, .ref o1), (2, .ref o2), (3, .ref o3), (4, .int x4)])
    (kk : ∀ (S1 : PS) (H : Heap) (locs : List Loc) (ls : Array Slot), K S1 → Wd D cy A s H locs S1 → tD S1 o1 10 → tD S1 o2 11 → tD S1 o3 14 → lv_has ls 8 [(0, .ref b), (1, .ref o1), (2, .ref o2), (3, .ref o3), (4, .int x4)] → W p l e room_1 s m args below meth c H locs (c0 + 30) (s0 + 9152) Q (F0 m 2580 ls [])) : W p l e room_1 s m args below meth c H locs c0 s0 Q (F0 m 2283 ls []) := by
  have hx := E.1
  have hb := E.2.1
  have hg : Gr S S := Gr.rf
  rw [gl_29] at h
  refine lv_aload_n hx hb dL_law_2283 rfl (lv_at hl 1 rfl) ?_
  obtain ⟨q1, h_q1, h⟩ := h
  refine z_VI E F hw [] (k_X10_clear l D cy kc o1 S h_q1 t_o1) t_o1 cf10 mk_X10_clear vk_X10_clear ml_L_201 ⟨by decide, by decide⟩ rfl hl.1 rfl (Nat.le_of_ble_eq_true rfl) dL_law_2284 ⟨(by first | omega | (simp only [rmK, room_1]; omega)), (by first | omega | (simp only [rmK, room_1]; omega))⟩ (fun H locs hw hG => ?_)
  have t_o1 := hG.t t_o1
  have t_o2 := hG.t t_o2
  have t_o3 := hG.t t_o3
  have hg := hg.tr hG
  refine lv_aload_n hx hb dL_law_2287 rfl (lv_at hl 2 rfl) ?_
  obtain ⟨q2, h_q2, h⟩ := h
  refine z_VI E F hw [] (k_X11_clear l D cy kc o2 q1.2 h_q2 t_o2) t_o2 cf11 mk_X11_clear vk_X11_clear ml_L_205 ⟨by decide, by decide⟩ rfl hl.1 rfl (Nat.le_of_ble_eq_true rfl) dL_law_2288 ⟨(by first | omega | (simp only [rmK, room_1]; omega)), (by first | omega | (simp only [rmK, room_1]; omega))⟩ (fun H locs hw hG => ?_)
  have t_o1 := hG.t t_o1
  have t_o2 := hG.t t_o2
  have t_o3 := hG.t t_o3
  have hg := hg.tr hG
  refine lv_icmp_eq (tgt := 2580) hx hb dL_law_2291 (by decide) (fun c3 => ?_) (fun c3 => ?_)
  · replace h := h.1 c3
    exact W.widen (by first | omega | (simp only [rmK, room_1]; omega)) (by first | omega | (simp only [rmK, room_1]; omega)) (kk q2.2 _ _ _ h hw t_o1 t_o2 t_o3 (lv_sub hl [0, 1, 2, 3, 4] rfl))
  · replace h := h.2 c3
    exact h.elim
def gl_30 (L : Nat) (xs : Nat → Int32) (o1 o2 o3 : Nat) (x4 : Int32) (S : PS) (K : PS → Prop) : Prop :=
  (ib (x4 + (1 : Int32)) L = true) ∧ (g_L_judged o1 (xs (Int32.toNatClampNeg (x4 + (1 : Int32)))) o3 S (fun (r3 : Int32) (S2 : PS) => ((ib (x4 + (1 : Int32)) L = true) ∧ (∃ q5, (f_X11_judged o2 (xs (Int32.toNatClampNeg (x4 + (1 : Int32)))) S2) = some q5 ∧ (∃ q6, (f_X11_thrown o2 q5.2) = some q6 ∧ (((q6.1 = r3 → (((r3 = (0 : Int32) → ((ib (0 : Int32) (sN q6.2 o3) = true) ∧ ((((lg_cmp (sJ q6.2 o3 (Int32.toNatClampNeg (0 : Int32))) q5.1) = (0 : Int32) → (K q6.2)) ∧ (¬ (lg_cmp (sJ q6.2 o3 (Int32.toNatClampNeg (0 : Int32))) q5.1) = (0 : Int32) → (False)))))) ∧ (¬ r3 = (0 : Int32) → (K q6.2))))) ∧ (¬ q6.1 = r3 → (False)))))))))
set_option maxHeartbeats 4000000 in
theorem lc_30 {p : Program} {l : Launch} {e : Env} {s : State} {m : MethodId} {args : Array Value} {below : List Frame} {meth : Method} {c : Code} {H : Heap} {locs : List Loc} {ls : Array Slot} {Q : State → Prop} {D : va_G} {cy : Nat → ClassId} {kc : Nat → Nat} {A : Nat → Prop} {b L : Nat} {xs : Nat → Int32} {c0 s0 : Nat} (hst : l.stackTraces = false) (E : CallFix p m c cL_law 8 s args LW RL) (F : Fx D cy kc A s) (hX : va_X b L xs s s.heap) (hbl : b < s.heap.size) (hbA : ¬ A b) (o1 o2 o3 : Nat) (x4 : Int32) (S : PS) {K : PS → Prop} (h : gl_30 L xs o1 o2 o3 x4 S K) (hc : c0 + 30 ≤ 601024) (hs : s0 + 9152 ≤ 7293034) (hw : Wd D cy A s H locs S) (t_o1 : tD S o1 10) (t_o2 : tD S o2 11) (t_o3 : tD S o3 14) (hl : lv_has ls 8 [(0, .ref b), (1, .ref o1), (2, .ref o2), (3, .ref o3), (4, .int x4)])
    (kk : ∀ (S1 : PS) (H : Heap) (locs : List Loc) (ls : Array Slot), K S1 → Wd D cy A s H locs S1 → tD S1 o1 10 → tD S1 o2 11 → tD S1 o3 14 → lv_has ls 8 [(0, .ref b), (1, .ref o1), (2, .ref o2), (3, .ref o3), (4, .int x4)] → W p l e room_1 s m args below meth c H locs (c0 + 30) (s0 + 9152) Q (F0 m 2580 ls [])) : W p l e room_1 s m args below meth c H locs c0 s0 Q (F0 m 2296 ls []) := by
  have hx := E.1
  have hb := E.2.1
  have hg : Gr S S := Gr.rf
  rw [gl_30] at h
  refine lv_aload_n hx hb dL_law_2296 rfl (lv_at hl 1 rfl) ?_
  refine lv_aload_n hx hb dL_law_2297 rfl (lv_at hl 0 rfl) ?_
  refine lv_iload hx hb dL_law_2298 (lv_at hl 4 rfl) ?_
  refine lv_iconst (v := 1) hx hb dL_law_2300 (by decide) ?_
  refine lv_iadd hx hb dL_law_2301 ?_
  obtain ⟨c1, h⟩ := h
  refine va_sld hx hb hX hbl hbA hw.2.2 (ib_in c1) dL_law_2302 ?_
  refine lv_aload_n hx hb dL_law_2303 rfl (lv_at hl 3 rfl) ?_
  refine l_SI E F hw [.ref o1, .int (xs (Int32.toNatClampNeg (x4 + (1 : Int32)))), .ref o3] (k_L_judged l hst D cy kc o1 (xs (Int32.toNatClampNeg (x4 + (1 : Int32)))) o3 S h t_o1 t_o3) lk_L_judged ml_L_206 ⟨by decide, by decide⟩ rfl hl.1 rfl (Nat.le_of_ble_eq_true rfl) dL_law_2304 ⟨(by first | omega | (simp only [rmK, room_1]; omega)), (by first | omega | (simp only [rmK, room_1]; omega))⟩ (fun r3 S2 H locs h hw hG => ?_)
  have t_o1 := hG.t t_o1
  have t_o2 := hG.t t_o2
  have t_o3 := hG.t t_o3
  have hg := hg.tr hG
  refine lv_istore (lv' := [(5, .int r3), (0, .ref b), (1, .ref o1), (2, .ref o2), (3, .ref o3), (4, .int x4)]) hx hb dL_law_2307 hl (by decide) rfl (fun ls hl => ?_)
  refine lv_aload_n hx hb dL_law_2309 rfl (lv_at hl 3 rfl) ?_
  refine lv_aload_n hx hb dL_law_2310 rfl (lv_at hl 1 rfl) ?_
  refine lv_iload hx hb dL_law_2311 (lv_at hl 5 rfl) ?_
  refine lv_iconst (v := 1) hx hb dL_law_2313 (by decide) ?_
  refine lv_iadd hx hb dL_law_2314 ?_
  obtain ⟨c4, h⟩ := h
  refine va_sld hx hb hX hbl hbA hw.2.2 (ib_in c4) dL_law_2315 ?_
  obtain ⟨q5, h_q5, h⟩ := h
  refine z_VJ E F hw [.int (xs (Int32.toNatClampNeg (x4 + (1 : Int32))))] (k_X11_judged l D cy kc o2 (xs (Int32.toNatClampNeg (x4 + (1 : Int32)))) S2 h_q5 t_o2) t_o2 cf11 mk_X11_judged vk_X11_judged ml_L_209 ⟨by decide, by decide⟩ rfl hl.1 rfl (Nat.le_of_ble_eq_true rfl) dL_law_2316 ⟨(by first | omega | (simp only [rmK, room_1]; omega)), (by first | omega | (simp only [rmK, room_1]; omega))⟩ (fun H locs hw hG => ?_)
  have t_o1 := hG.t t_o1
  have t_o2 := hG.t t_o2
  have t_o3 := hG.t t_o3
  have hg := hg.tr hG
  refine lv_lstore (lv' := [(6, .long q5.1), (5, .int r3), (0, .ref b), (1, .ref o1), (2, .ref o2), (3, .ref o3), (4, .int x4)]) hx hb dL_law_2319 hl (by decide) rfl (fun ls hl => ?_)
  refine lv_aload_n hx hb dL_law_2321 rfl (lv_at hl 4 rfl) ?_
  obtain ⟨q6, h_q6, h⟩ := h
  refine z_VI E F hw [] (k_X11_thrown l D cy kc o2 q5.2 h_q6 t_o2) t_o2 cf11 mk_X11_thrown vk_X11_thrown ml_L_102 ⟨by decide, by decide⟩ rfl hl.1 rfl (Nat.le_of_ble_eq_true rfl) dL_law_2322 ⟨(by first | omega | (simp only [rmK, room_1]; omega)), (by first | omega | (simp only [rmK, room_1]; omega))⟩ (fun H locs hw hG => ?_)
  have t_o1 := hG.t t_o1
  have t_o2 := hG.t t_o2
  have t_o3 := hG.t t_o3
  have hg := hg.tr hG
  refine lv_iload hx hb dL_law_2325 (lv_at hl 1 rfl) ?_
  refine lv_icmp_eq (tgt := 2332) hx hb dL_law_2327 (by decide) (fun c7 => ?_) (fun c7 => ?_)
  · replace h := h.1 c7
    refine lv_iload hx hb dL_law_2332 (lv_at hl 1 rfl) ?_
    refine lv_if_ne (tgt := 2348) hx hb dL_law_2334 (by decide) (fun c8 => ?_) (fun c8 => ?_)
    · replace h := h.2 c8
      refine lv_goto (tgt := 2580) hx hb dL_law_2348 (by decide) ?_
      exact W.widen (by first | omega | (simp only [rmK, room_1]; omega)) (by first | omega | (simp only [rmK, room_1]; omega)) (kk q6.2 _ _ _ h hw t_o1 t_o2 t_o3 (lv_sub hl [2, 3, 4, 5, 6] rfl))
    · replace h := h.1 c8
      refine lv_aload_n hx hb dL_law_2337 rfl (lv_at hl 5 rfl) ?_
      refine lv_iconst (v := 0) hx hb dL_law_2338 (by decide) ?_
      obtain ⟨c9, h⟩ := h
      refine a_j E F hw t_o3 c9 dL_law_2339 ?_
      refine lv_lload hx hb dL_law_2340 (lv_at hl 0 rfl) ?_
      refine W.lcmp hx hb dL_law_2342 ?_
      refine lv_if_eq (tgt := 2348) hx hb dL_law_2343 (by decide) (fun c10 => ?_) (fun c10 => ?_)
      · replace h := h.1 c10
        refine lv_goto (tgt := 2580) hx hb dL_law_2348 (by decide) ?_
        exact W.widen (by first | omega | (simp only [rmK, room_1]; omega)) (by first | omega | (simp only [rmK, room_1]; omega)) (kk q6.2 _ _ _ h hw t_o1 t_o2 t_o3 (lv_sub hl [2, 3, 4, 5, 6] rfl))
      · replace h := h.2 c10
        exact h.elim
  · replace h := h.2 c7
    exact h.elim
def gl_31 (L : Nat) (xs : Nat → Int32) (o1 o2 o3 : Nat) (x4 : Int32) (S : PS) (K : PS → Prop) : Prop :=
  (ib (x4 + (1 : Int32)) L = true) ∧ ((ib (x4 + (2 : Int32)) L = true) ∧ ((((xs (Int32.toNatClampNeg (x4 + (2 : Int32)))) = (0 : Int32) → (g_L_rowFares o1 (xs (Int32.toNatClampNeg (x4 + (1 : Int32)))) (0 : Int32) o3 S (fun (r5 : Int32) (S4 : PS) => ((ib (x4 + (1 : Int32)) L = true) ∧ ((ib (x4 + (2 : Int32)) L = true) ∧ ((((xs (Int32.toNatClampNeg (x4 + (2 : Int32)))) = (0 : Int32) → (∃ q9, (f_X11_rowFares o2 (xs (Int32.toNatClampNeg (x4 + (1 : Int32)))) (0 : Int32) S4) = some q9 ∧ (∃ q10, (f_X11_thrown o2 q9.2) = some q10 ∧ (((q10.1 = r5 → (((r5 = (0 : Int32) → ((ib (0 : Int32) (sN q10.2 o3) = true) ∧ ((((lg_cmp (sJ q10.2 o3 (Int32.toNatClampNeg (0 : Int32))) (Int32.toInt64 q9.1)) = (0 : Int32) → (K q10.2)) ∧ (¬ (lg_cmp (sJ q10.2 o3 (Int32.toNatClampNeg (0 : Int32))) (Int32.toInt64 q9.1)) = (0 : Int32) → (False)))))) ∧ (¬ r5 = (0 : Int32) → (K q10.2))))) ∧ (¬ q10.1 = r5 → (False))))))) ∧ (¬ (xs (Int32.toNatClampNeg (x4 + (2 : Int32)))) = (0 : Int32) → (∃ q15, (f_X11_rowFares o2 (xs (Int32.toNatClampNeg (x4 + (1 : Int32)))) (1 : Int32) S4) = some q15 ∧ (∃ q16, (f_X11_thrown o2 q15.2) = some q16 ∧ (((q16.1 = r5 → (((r5 = (0 : Int32) → ((ib (0 : Int32) (sN q16.2 o3) = true) ∧ ((((lg_cmp (sJ q16.2 o3 (Int32.toNatClampNeg (0 : Int32))) (Int32.toInt64 q15.1)) = (0 : Int32) → (K q16.2)) ∧ (¬ (lg_cmp (sJ q16.2 o3 (Int32.toNatClampNeg (0 : Int32))) (Int32.toInt64 q15.1)) = (0 : Int32) → (False)))))) ∧ (¬ r5 = (0 : Int32) → (K q16.2))))) ∧ (¬ q16.1 = r5 → (False)))))))))))))) ∧ (¬ (xs (Int32.toNatClampNeg (x4 + (2 : Int32)))) = (0 : Int32) → (g_L_rowFares o1 (xs (Int32.toNatClampNeg (x4 + (1 : Int32)))) (1 : Int32) o3 S (fun (r22 : Int32) (S21 : PS) => ((ib (x4 + (1 : Int32)) L = true) ∧ ((ib (x4 + (2 : Int32)) L = true) ∧ ((((xs (Int32.toNatClampNeg (x4 + (2 : Int32)))) = (0 : Int32) → (∃ q26, (f_X11_rowFares o2 (xs (Int32.toNatClampNeg (x4 + (1 : Int32)))) (0 : Int32) S21) = some q26 ∧ (∃ q27, (f_X11_thrown o2 q26.2) = some q27 ∧ (((q27.1 = r22 → (((r22 = (0 : Int32) → ((ib (0 : Int32) (sN q27.2 o3) = true) ∧ ((((lg_cmp (sJ q27.2 o3 (Int32.toNatClampNeg (0 : Int32))) (Int32.toInt64 q26.1)) = (0 : Int32) → (K q27.2)) ∧ (¬ (lg_cmp (sJ q27.2 o3 (Int32.toNatClampNeg (0 : Int32))) (Int32.toInt64 q26.1)) = (0 : Int32) → (False)))))) ∧ (¬ r22 = (0 : Int32) → (K q27.2))))) ∧ (¬ q27.1 = r22 → (False))))))) ∧ (¬ (xs (Int32.toNatClampNeg (x4 + (2 : Int32)))) = (0 : Int32) → (∃ q32, (f_X11_rowFares o2 (xs (Int32.toNatClampNeg (x4 + (1 : Int32)))) (1 : Int32) S21) = some q32 ∧ (∃ q33, (f_X11_thrown o2 q32.2) = some q33 ∧ (((q33.1 = r22 → (((r22 = (0 : Int32) → ((ib (0 : Int32) (sN q33.2 o3) = true) ∧ ((((lg_cmp (sJ q33.2 o3 (Int32.toNatClampNeg (0 : Int32))) (Int32.toInt64 q32.1)) = (0 : Int32) → (K q33.2)) ∧ (¬ (lg_cmp (sJ q33.2 o3 (Int32.toNatClampNeg (0 : Int32))) (Int32.toInt64 q32.1)) = (0 : Int32) → (False)))))) ∧ (¬ r22 = (0 : Int32) → (K q33.2))))) ∧ (¬ q33.1 = r22 → (False)))))))))))))))))
set_option maxHeartbeats 4000000 in
theorem lc_31 {p : Program} {l : Launch} {e : Env} {s : State} {m : MethodId} {args : Array Value} {below : List Frame} {meth : Method} {c : Code} {H : Heap} {locs : List Loc} {ls : Array Slot} {Q : State → Prop} {D : va_G} {cy : Nat → ClassId} {kc : Nat → Nat} {A : Nat → Prop} {b L : Nat} {xs : Nat → Int32} {c0 s0 : Nat} (hst : l.stackTraces = false) (E : CallFix p m c cL_law 8 s args LW RL) (F : Fx D cy kc A s) (hX : va_X b L xs s s.heap) (hbl : b < s.heap.size) (hbA : ¬ A b) (o1 o2 o3 : Nat) (x4 : Int32) (S : PS) {K : PS → Prop} (h : gl_31 L xs o1 o2 o3 x4 S K) (hc : c0 + 30 ≤ 601024) (hs : s0 + 9152 ≤ 7293034) (hw : Wd D cy A s H locs S) (t_o1 : tD S o1 10) (t_o2 : tD S o2 11) (t_o3 : tD S o3 14) (hl : lv_has ls 8 [(0, .ref b), (1, .ref o1), (2, .ref o2), (3, .ref o3), (4, .int x4)])
    (kk : ∀ (S1 : PS) (H : Heap) (locs : List Loc) (ls : Array Slot), K S1 → Wd D cy A s H locs S1 → tD S1 o1 10 → tD S1 o2 11 → tD S1 o3 14 → lv_has ls 8 [(0, .ref b), (1, .ref o1), (2, .ref o2), (3, .ref o3), (4, .int x4)] → W p l e room_1 s m args below meth c H locs (c0 + 30) (s0 + 9152) Q (F0 m 2580 ls [])) : W p l e room_1 s m args below meth c H locs c0 s0 Q (F0 m 2351 ls []) := by
  have hx := E.1
  have hb := E.2.1
  have hg : Gr S S := Gr.rf
  rw [gl_31] at h
  refine lv_aload_n hx hb dL_law_2351 rfl (lv_at hl 1 rfl) ?_
  refine lv_aload_n hx hb dL_law_2352 rfl (lv_at hl 0 rfl) ?_
  refine lv_iload hx hb dL_law_2353 (lv_at hl 4 rfl) ?_
  refine lv_iconst (v := 1) hx hb dL_law_2355 (by decide) ?_
  refine lv_iadd hx hb dL_law_2356 ?_
  obtain ⟨c1, h⟩ := h
  refine va_sld hx hb hX hbl hbA hw.2.2 (ib_in c1) dL_law_2357 ?_
  refine lv_aload_n hx hb dL_law_2358 rfl (lv_at hl 0 rfl) ?_
  refine lv_iload hx hb dL_law_2359 (lv_at hl 4 rfl) ?_
  refine lv_iconst (v := 2) hx hb dL_law_2361 (by decide) ?_
  refine lv_iadd hx hb dL_law_2362 ?_
  obtain ⟨c2, h⟩ := h
  refine va_sld hx hb hX hbl hbA hw.2.2 (ib_in c2) dL_law_2363 ?_
  refine lv_if_eq (tgt := 2371) hx hb dL_law_2364 (by decide) (fun c3 => ?_) (fun c3 => ?_)
  · replace h := h.1 c3
    refine lv_iconst (v := 0) hx hb dL_law_2371 (by decide) ?_
    refine lv_aload_n hx hb dL_law_2372 rfl (lv_at hl 3 rfl) ?_
    refine l_SI E F hw [.ref o1, .int (xs (Int32.toNatClampNeg (x4 + (1 : Int32)))), .int (0 : Int32), .ref o3] (k_L_rowFares l hst D cy kc o1 (xs (Int32.toNatClampNeg (x4 + (1 : Int32)))) (0 : Int32) o3 S h t_o1 t_o3) lk_L_rowFares ml_L_210 ⟨by decide, by decide⟩ rfl hl.1 rfl (Nat.le_of_ble_eq_true rfl) dL_law_2373 ⟨(by first | omega | (simp only [rmK, room_1]; omega)), (by first | omega | (simp only [rmK, room_1]; omega))⟩ (fun r5 S4 H locs h hw hG => ?_)
    have t_o1 := hG.t t_o1
    have t_o2 := hG.t t_o2
    have t_o3 := hG.t t_o3
    have hg := hg.tr hG
    refine lv_istore (lv' := [(5, .int r5), (0, .ref b), (1, .ref o1), (2, .ref o2), (3, .ref o3), (4, .int x4)]) hx hb dL_law_2376 hl (by decide) rfl (fun ls hl => ?_)
    refine lv_aload_n hx hb dL_law_2378 rfl (lv_at hl 3 rfl) ?_
    refine lv_aload_n hx hb dL_law_2379 rfl (lv_at hl 1 rfl) ?_
    refine lv_iload hx hb dL_law_2380 (lv_at hl 5 rfl) ?_
    refine lv_iconst (v := 1) hx hb dL_law_2382 (by decide) ?_
    refine lv_iadd hx hb dL_law_2383 ?_
    obtain ⟨c6, h⟩ := h
    refine va_sld hx hb hX hbl hbA hw.2.2 (ib_in c6) dL_law_2384 ?_
    refine lv_aload_n hx hb dL_law_2385 rfl (lv_at hl 1 rfl) ?_
    refine lv_iload hx hb dL_law_2386 (lv_at hl 5 rfl) ?_
    refine lv_iconst (v := 2) hx hb dL_law_2388 (by decide) ?_
    refine lv_iadd hx hb dL_law_2389 ?_
    obtain ⟨c7, h⟩ := h
    refine va_sld hx hb hX hbl hbA hw.2.2 (ib_in c7) dL_law_2390 ?_
    refine lv_if_eq (tgt := 2398) hx hb dL_law_2391 (by decide) (fun c8 => ?_) (fun c8 => ?_)
    · replace h := h.1 c8
      refine lv_iconst (v := 0) hx hb dL_law_2398 (by decide) ?_
      obtain ⟨q9, h_q9, h⟩ := h
      refine z_VI E F hw [.int (xs (Int32.toNatClampNeg (x4 + (1 : Int32)))), .int (0 : Int32)] (k_X11_rowFares l D cy kc o2 (xs (Int32.toNatClampNeg (x4 + (1 : Int32)))) (0 : Int32) S4 h_q9 t_o2) t_o2 cf11 mk_X11_rowFares vk_X11_rowFares ml_L_213 ⟨by decide, by decide⟩ rfl hl.1 rfl (Nat.le_of_ble_eq_true rfl) dL_law_2399 ⟨(by first | omega | (simp only [rmK, room_1]; omega)), (by first | omega | (simp only [rmK, room_1]; omega))⟩ (fun H locs hw hG => ?_)
      have t_o1 := hG.t t_o1
      have t_o2 := hG.t t_o2
      have t_o3 := hG.t t_o3
      have hg := hg.tr hG
      refine lv_istore (lv' := [(6, .int q9.1), (5, .int r5), (0, .ref b), (1, .ref o1), (2, .ref o2), (3, .ref o3), (4, .int x4)]) hx hb dL_law_2402 hl (by decide) rfl (fun ls hl => ?_)
      refine lv_aload_n hx hb dL_law_2404 rfl (lv_at hl 4 rfl) ?_
      obtain ⟨q10, h_q10, h⟩ := h
      refine z_VI E F hw [] (k_X11_thrown l D cy kc o2 q9.2 h_q10 t_o2) t_o2 cf11 mk_X11_thrown vk_X11_thrown ml_L_102 ⟨by decide, by decide⟩ rfl hl.1 rfl (Nat.le_of_ble_eq_true rfl) dL_law_2405 ⟨(by first | omega | (simp only [rmK, room_1]; omega)), (by first | omega | (simp only [rmK, room_1]; omega))⟩ (fun H locs hw hG => ?_)
      have t_o1 := hG.t t_o1
      have t_o2 := hG.t t_o2
      have t_o3 := hG.t t_o3
      have hg := hg.tr hG
      refine lv_iload hx hb dL_law_2408 (lv_at hl 1 rfl) ?_
      refine lv_icmp_eq (tgt := 2415) hx hb dL_law_2410 (by decide) (fun c11 => ?_) (fun c11 => ?_)
      · replace h := h.1 c11
        refine lv_iload hx hb dL_law_2415 (lv_at hl 1 rfl) ?_
        refine lv_if_ne (tgt := 2432) hx hb dL_law_2417 (by decide) (fun c12 => ?_) (fun c12 => ?_)
        · replace h := h.2 c12
          refine lv_goto (tgt := 2580) hx hb dL_law_2432 (by decide) ?_
          exact W.widen (by first | omega | (simp only [rmK, room_1]; omega)) (by first | omega | (simp only [rmK, room_1]; omega)) (kk q10.2 _ _ _ h hw t_o1 t_o2 t_o3 (lv_sub hl [2, 3, 4, 5, 6] rfl))
        · replace h := h.1 c12
          refine lv_aload_n hx hb dL_law_2420 rfl (lv_at hl 5 rfl) ?_
          refine lv_iconst (v := 0) hx hb dL_law_2421 (by decide) ?_
          obtain ⟨c13, h⟩ := h
          refine a_j E F hw t_o3 c13 dL_law_2422 ?_
          refine lv_iload hx hb dL_law_2423 (lv_at hl 0 rfl) ?_
          refine lv_i2l hx hb dL_law_2425 rfl ?_
          refine W.lcmp hx hb dL_law_2426 ?_
          refine lv_if_eq (tgt := 2432) hx hb dL_law_2427 (by decide) (fun c14 => ?_) (fun c14 => ?_)
          · replace h := h.1 c14
            refine lv_goto (tgt := 2580) hx hb dL_law_2432 (by decide) ?_
            exact W.widen (by first | omega | (simp only [rmK, room_1]; omega)) (by first | omega | (simp only [rmK, room_1]; omega)) (kk q10.2 _ _ _ h hw t_o1 t_o2 t_o3 (lv_sub hl [2, 3, 4, 5, 6] rfl))
          · replace h := h.2 c14
            exact h.elim
      · replace h := h.2 c11
        exact h.elim
    · replace h := h.2 c8
      refine lv_iconst (v := 1) hx hb dL_law_2394 (by decide) ?_
      refine lv_goto (tgt := 2399) hx hb dL_law_2395 (by decide) ?_
      obtain ⟨q15, h_q15, h⟩ := h
      refine z_VI E F hw [.int (xs (Int32.toNatClampNeg (x4 + (1 : Int32)))), .int (1 : Int32)] (k_X11_rowFares l D cy kc o2 (xs (Int32.toNatClampNeg (x4 + (1 : Int32)))) (1 : Int32) S4 h_q15 t_o2) t_o2 cf11 mk_X11_rowFares vk_X11_rowFares ml_L_213 ⟨by decide, by decide⟩ rfl hl.1 rfl (Nat.le_of_ble_eq_true rfl) dL_law_2399 ⟨(by first | omega | (simp only [rmK, room_1]; omega)), (by first | omega | (simp only [rmK, room_1]; omega))⟩ (fun H locs hw hG => ?_)
      have t_o1 := hG.t t_o1
      have t_o2 := hG.t t_o2
      have t_o3 := hG.t t_o3
      have hg := hg.tr hG
      refine lv_istore (lv' := [(6, .int q15.1), (5, .int r5), (0, .ref b), (1, .ref o1), (2, .ref o2), (3, .ref o3), (4, .int x4)]) hx hb dL_law_2402 hl (by decide) rfl (fun ls hl => ?_)
      refine lv_aload_n hx hb dL_law_2404 rfl (lv_at hl 4 rfl) ?_
      obtain ⟨q16, h_q16, h⟩ := h
      refine z_VI E F hw [] (k_X11_thrown l D cy kc o2 q15.2 h_q16 t_o2) t_o2 cf11 mk_X11_thrown vk_X11_thrown ml_L_102 ⟨by decide, by decide⟩ rfl hl.1 rfl (Nat.le_of_ble_eq_true rfl) dL_law_2405 ⟨(by first | omega | (simp only [rmK, room_1]; omega)), (by first | omega | (simp only [rmK, room_1]; omega))⟩ (fun H locs hw hG => ?_)
      have t_o1 := hG.t t_o1
      have t_o2 := hG.t t_o2
      have t_o3 := hG.t t_o3
      have hg := hg.tr hG
      refine lv_iload hx hb dL_law_2408 (lv_at hl 1 rfl) ?_
      refine lv_icmp_eq (tgt := 2415) hx hb dL_law_2410 (by decide) (fun c17 => ?_) (fun c17 => ?_)
      · replace h := h.1 c17
        refine lv_iload hx hb dL_law_2415 (lv_at hl 1 rfl) ?_
        refine lv_if_ne (tgt := 2432) hx hb dL_law_2417 (by decide) (fun c18 => ?_) (fun c18 => ?_)
        · replace h := h.2 c18
          refine lv_goto (tgt := 2580) hx hb dL_law_2432 (by decide) ?_
          exact W.widen (by first | omega | (simp only [rmK, room_1]; omega)) (by first | omega | (simp only [rmK, room_1]; omega)) (kk q16.2 _ _ _ h hw t_o1 t_o2 t_o3 (lv_sub hl [2, 3, 4, 5, 6] rfl))
        · replace h := h.1 c18
          refine lv_aload_n hx hb dL_law_2420 rfl (lv_at hl 5 rfl) ?_
          refine lv_iconst (v := 0) hx hb dL_law_2421 (by decide) ?_
          obtain ⟨c19, h⟩ := h
          refine a_j E F hw t_o3 c19 dL_law_2422 ?_
          refine lv_iload hx hb dL_law_2423 (lv_at hl 0 rfl) ?_
          refine lv_i2l hx hb dL_law_2425 rfl ?_
          refine W.lcmp hx hb dL_law_2426 ?_
          refine lv_if_eq (tgt := 2432) hx hb dL_law_2427 (by decide) (fun c20 => ?_) (fun c20 => ?_)
          · replace h := h.1 c20
            refine lv_goto (tgt := 2580) hx hb dL_law_2432 (by decide) ?_
            exact W.widen (by first | omega | (simp only [rmK, room_1]; omega)) (by first | omega | (simp only [rmK, room_1]; omega)) (kk q16.2 _ _ _ h hw t_o1 t_o2 t_o3 (lv_sub hl [2, 3, 4, 5, 6] rfl))
          · replace h := h.2 c20
            exact h.elim
      · replace h := h.2 c17
        exact h.elim
  · replace h := h.2 c3
    refine lv_iconst (v := 1) hx hb dL_law_2367 (by decide) ?_
    refine lv_goto (tgt := 2372) hx hb dL_law_2368 (by decide) ?_
    refine lv_aload_n hx hb dL_law_2372 rfl (lv_at hl 3 rfl) ?_
    refine l_SI E F hw [.ref o1, .int (xs (Int32.toNatClampNeg (x4 + (1 : Int32)))), .int (1 : Int32), .ref o3] (k_L_rowFares l hst D cy kc o1 (xs (Int32.toNatClampNeg (x4 + (1 : Int32)))) (1 : Int32) o3 S h t_o1 t_o3) lk_L_rowFares ml_L_210 ⟨by decide, by decide⟩ rfl hl.1 rfl (Nat.le_of_ble_eq_true rfl) dL_law_2373 ⟨(by first | omega | (simp only [rmK, room_1]; omega)), (by first | omega | (simp only [rmK, room_1]; omega))⟩ (fun r22 S21 H locs h hw hG => ?_)
    have t_o1 := hG.t t_o1
    have t_o2 := hG.t t_o2
    have t_o3 := hG.t t_o3
    have hg := hg.tr hG
    refine lv_istore (lv' := [(5, .int r22), (0, .ref b), (1, .ref o1), (2, .ref o2), (3, .ref o3), (4, .int x4)]) hx hb dL_law_2376 hl (by decide) rfl (fun ls hl => ?_)
    refine lv_aload_n hx hb dL_law_2378 rfl (lv_at hl 3 rfl) ?_
    refine lv_aload_n hx hb dL_law_2379 rfl (lv_at hl 1 rfl) ?_
    refine lv_iload hx hb dL_law_2380 (lv_at hl 5 rfl) ?_
    refine lv_iconst (v := 1) hx hb dL_law_2382 (by decide) ?_
    refine lv_iadd hx hb dL_law_2383 ?_
    obtain ⟨c23, h⟩ := h
    refine va_sld hx hb hX hbl hbA hw.2.2 (ib_in c23) dL_law_2384 ?_
    refine lv_aload_n hx hb dL_law_2385 rfl (lv_at hl 1 rfl) ?_
    refine lv_iload hx hb dL_law_2386 (lv_at hl 5 rfl) ?_
    refine lv_iconst (v := 2) hx hb dL_law_2388 (by decide) ?_
    refine lv_iadd hx hb dL_law_2389 ?_
    obtain ⟨c24, h⟩ := h
    refine va_sld hx hb hX hbl hbA hw.2.2 (ib_in c24) dL_law_2390 ?_
    refine lv_if_eq (tgt := 2398) hx hb dL_law_2391 (by decide) (fun c25 => ?_) (fun c25 => ?_)
    · replace h := h.1 c25
      refine lv_iconst (v := 0) hx hb dL_law_2398 (by decide) ?_
      obtain ⟨q26, h_q26, h⟩ := h
      refine z_VI E F hw [.int (xs (Int32.toNatClampNeg (x4 + (1 : Int32)))), .int (0 : Int32)] (k_X11_rowFares l D cy kc o2 (xs (Int32.toNatClampNeg (x4 + (1 : Int32)))) (0 : Int32) S21 h_q26 t_o2) t_o2 cf11 mk_X11_rowFares vk_X11_rowFares ml_L_213 ⟨by decide, by decide⟩ rfl hl.1 rfl (Nat.le_of_ble_eq_true rfl) dL_law_2399 ⟨(by first | omega | (simp only [rmK, room_1]; omega)), (by first | omega | (simp only [rmK, room_1]; omega))⟩ (fun H locs hw hG => ?_)
      have t_o1 := hG.t t_o1
      have t_o2 := hG.t t_o2
      have t_o3 := hG.t t_o3
      have hg := hg.tr hG
      refine lv_istore (lv' := [(6, .int q26.1), (5, .int r22), (0, .ref b), (1, .ref o1), (2, .ref o2), (3, .ref o3), (4, .int x4)]) hx hb dL_law_2402 hl (by decide) rfl (fun ls hl => ?_)
      refine lv_aload_n hx hb dL_law_2404 rfl (lv_at hl 4 rfl) ?_
      obtain ⟨q27, h_q27, h⟩ := h
      refine z_VI E F hw [] (k_X11_thrown l D cy kc o2 q26.2 h_q27 t_o2) t_o2 cf11 mk_X11_thrown vk_X11_thrown ml_L_102 ⟨by decide, by decide⟩ rfl hl.1 rfl (Nat.le_of_ble_eq_true rfl) dL_law_2405 ⟨(by first | omega | (simp only [rmK, room_1]; omega)), (by first | omega | (simp only [rmK, room_1]; omega))⟩ (fun H locs hw hG => ?_)
      have t_o1 := hG.t t_o1
      have t_o2 := hG.t t_o2
      have t_o3 := hG.t t_o3
      have hg := hg.tr hG
      refine lv_iload hx hb dL_law_2408 (lv_at hl 1 rfl) ?_
      refine lv_icmp_eq (tgt := 2415) hx hb dL_law_2410 (by decide) (fun c28 => ?_) (fun c28 => ?_)
      · replace h := h.1 c28
        refine lv_iload hx hb dL_law_2415 (lv_at hl 1 rfl) ?_
        refine lv_if_ne (tgt := 2432) hx hb dL_law_2417 (by decide) (fun c29 => ?_) (fun c29 => ?_)
        · replace h := h.2 c29
          refine lv_goto (tgt := 2580) hx hb dL_law_2432 (by decide) ?_
          exact W.widen (by first | omega | (simp only [rmK, room_1]; omega)) (by first | omega | (simp only [rmK, room_1]; omega)) (kk q27.2 _ _ _ h hw t_o1 t_o2 t_o3 (lv_sub hl [2, 3, 4, 5, 6] rfl))
        · replace h := h.1 c29
          refine lv_aload_n hx hb dL_law_2420 rfl (lv_at hl 5 rfl) ?_
          refine lv_iconst (v := 0) hx hb dL_law_2421 (by decide) ?_
          obtain ⟨c30, h⟩ := h
          refine a_j E F hw t_o3 c30 dL_law_2422 ?_
          refine lv_iload hx hb dL_law_2423 (lv_at hl 0 rfl) ?_
          refine lv_i2l hx hb dL_law_2425 rfl ?_
          refine W.lcmp hx hb dL_law_2426 ?_
          refine lv_if_eq (tgt := 2432) hx hb dL_law_2427 (by decide) (fun c31 => ?_) (fun c31 => ?_)
          · replace h := h.1 c31
            refine lv_goto (tgt := 2580) hx hb dL_law_2432 (by decide) ?_
            exact W.widen (by first | omega | (simp only [rmK, room_1]; omega)) (by first | omega | (simp only [rmK, room_1]; omega)) (kk q27.2 _ _ _ h hw t_o1 t_o2 t_o3 (lv_sub hl [2, 3, 4, 5, 6] rfl))
          · replace h := h.2 c31
            exact h.elim
      · replace h := h.2 c28
        exact h.elim
    · replace h := h.2 c25
      refine lv_iconst (v := 1) hx hb dL_law_2394 (by decide) ?_
      refine lv_goto (tgt := 2399) hx hb dL_law_2395 (by decide) ?_
      obtain ⟨q32, h_q32, h⟩ := h
      refine z_VI E F hw [.int (xs (Int32.toNatClampNeg (x4 + (1 : Int32)))), .int (1 : Int32)] (k_X11_rowFares l D cy kc o2 (xs (Int32.toNatClampNeg (x4 + (1 : Int32)))) (1 : Int32) S21 h_q32 t_o2) t_o2 cf11 mk_X11_rowFares vk_X11_rowFares ml_L_213 ⟨by decide, by decide⟩ rfl hl.1 rfl (Nat.le_of_ble_eq_true rfl) dL_law_2399 ⟨(by first | omega | (simp only [rmK, room_1]; omega)), (by first | omega | (simp only [rmK, room_1]; omega))⟩ (fun H locs hw hG => ?_)
      have t_o1 := hG.t t_o1
      have t_o2 := hG.t t_o2
      have t_o3 := hG.t t_o3
      have hg := hg.tr hG
      refine lv_istore (lv' := [(6, .int q32.1), (5, .int r22), (0, .ref b), (1, .ref o1), (2, .ref o2), (3, .ref o3), (4, .int x4)]) hx hb dL_law_2402 hl (by decide) rfl (fun ls hl => ?_)
      refine lv_aload_n hx hb dL_law_2404 rfl (lv_at hl 4 rfl) ?_
      obtain ⟨q33, h_q33, h⟩ := h
      refine z_VI E F hw [] (k_X11_thrown l D cy kc o2 q32.2 h_q33 t_o2) t_o2 cf11 mk_X11_thrown vk_X11_thrown ml_L_102 ⟨by decide, by decide⟩ rfl hl.1 rfl (Nat.le_of_ble_eq_true rfl) dL_law_2405 ⟨(by first | omega | (simp only [rmK, room_1]; omega)), (by first | omega | (simp only [rmK, room_1]; omega))⟩ (fun H locs hw hG => ?_)
      have t_o1 := hG.t t_o1
      have t_o2 := hG.t t_o2
      have t_o3 := hG.t t_o3
      have hg := hg.tr hG
      refine lv_iload hx hb dL_law_2408 (lv_at hl 1 rfl) ?_
      refine lv_icmp_eq (tgt := 2415) hx hb dL_law_2410 (by decide) (fun c34 => ?_) (fun c34 => ?_)
      · replace h := h.1 c34
        refine lv_iload hx hb dL_law_2415 (lv_at hl 1 rfl) ?_
        refine lv_if_ne (tgt := 2432) hx hb dL_law_2417 (by decide) (fun c35 => ?_) (fun c35 => ?_)
        · replace h := h.2 c35
          refine lv_goto (tgt := 2580) hx hb dL_law_2432 (by decide) ?_
          exact W.widen (by first | omega | (simp only [rmK, room_1]; omega)) (by first | omega | (simp only [rmK, room_1]; omega)) (kk q33.2 _ _ _ h hw t_o1 t_o2 t_o3 (lv_sub hl [2, 3, 4, 5, 6] rfl))
        · replace h := h.1 c35
          refine lv_aload_n hx hb dL_law_2420 rfl (lv_at hl 5 rfl) ?_
          refine lv_iconst (v := 0) hx hb dL_law_2421 (by decide) ?_
          obtain ⟨c36, h⟩ := h
          refine a_j E F hw t_o3 c36 dL_law_2422 ?_
          refine lv_iload hx hb dL_law_2423 (lv_at hl 0 rfl) ?_
          refine lv_i2l hx hb dL_law_2425 rfl ?_
          refine W.lcmp hx hb dL_law_2426 ?_
          refine lv_if_eq (tgt := 2432) hx hb dL_law_2427 (by decide) (fun c37 => ?_) (fun c37 => ?_)
          · replace h := h.1 c37
            refine lv_goto (tgt := 2580) hx hb dL_law_2432 (by decide) ?_
            exact W.widen (by first | omega | (simp only [rmK, room_1]; omega)) (by first | omega | (simp only [rmK, room_1]; omega)) (kk q33.2 _ _ _ h hw t_o1 t_o2 t_o3 (lv_sub hl [2, 3, 4, 5, 6] rfl))
          · replace h := h.2 c37
            exact h.elim
      · replace h := h.2 c34
        exact h.elim
def gl_32 (L : Nat) (xs : Nat → Int32) (o1 o2 o3 : Nat) (x4 : Int32) (S : PS) (K : PS → Prop) : Prop :=
  (ib (x4 + (1 : Int32)) L = true) ∧ ((ib (x4 + (2 : Int32)) L = true) ∧ (g_L_when o1 (xs (Int32.toNatClampNeg (x4 + (1 : Int32)))) (xs (Int32.toNatClampNeg (x4 + (2 : Int32)))) o3 S (fun (r4 : Int32) (S3 : PS) => ((ib (x4 + (1 : Int32)) L = true) ∧ ((ib (x4 + (2 : Int32)) L = true) ∧ (∃ q7, (f_X11_when o2 (xs (Int32.toNatClampNeg (x4 + (1 : Int32)))) (xs (Int32.toNatClampNeg (x4 + (2 : Int32)))) S3) = some q7 ∧ (∃ q8, (f_X11_thrown o2 q7.2) = some q8 ∧ (((q8.1 = r4 → (((r4 = (0 : Int32) → ((ib (0 : Int32) (sN q8.2 o3) = true) ∧ ((((lg_cmp (sJ q8.2 o3 (Int32.toNatClampNeg (0 : Int32))) q7.1) = (0 : Int32) → (K q8.2)) ∧ (¬ (lg_cmp (sJ q8.2 o3 (Int32.toNatClampNeg (0 : Int32))) q7.1) = (0 : Int32) → (False)))))) ∧ (¬ r4 = (0 : Int32) → (K q8.2))))) ∧ (¬ q8.1 = r4 → (False)))))))))))
set_option maxHeartbeats 4000000 in
theorem lc_32 {p : Program} {l : Launch} {e : Env} {s : State} {m : MethodId} {args : Array Value} {below : List Frame} {meth : Method} {c : Code} {H : Heap} {locs : List Loc} {ls : Array Slot} {Q : State → Prop} {D : va_G} {cy : Nat → ClassId} {kc : Nat → Nat} {A : Nat → Prop} {b L : Nat} {xs : Nat → Int32} {c0 s0 : Nat} (hst : l.stackTraces = false) (E : CallFix p m c cL_law 8 s args LW RL) (F : Fx D cy kc A s) (hX : va_X b L xs s s.heap) (hbl : b < s.heap.size) (hbA : ¬ A b) (o1 o2 o3 : Nat) (x4 : Int32) (S : PS) {K : PS → Prop} (h : gl_32 L xs o1 o2 o3 x4 S K) (hc : c0 + 30 ≤ 601024) (hs : s0 + 9152 ≤ 7293034) (hw : Wd D cy A s H locs S) (t_o1 : tD S o1 10) (t_o2 : tD S o2 11) (t_o3 : tD S o3 14) (hl : lv_has ls 8 [(0, .ref b), (1, .ref o1), (2, .ref o2), (3, .ref o3), (4, .int x4)])
    (kk : ∀ (S1 : PS) (H : Heap) (locs : List Loc) (ls : Array Slot), K S1 → Wd D cy A s H locs S1 → tD S1 o1 10 → tD S1 o2 11 → tD S1 o3 14 → lv_has ls 8 [(0, .ref b), (1, .ref o1), (2, .ref o2), (3, .ref o3), (4, .int x4)] → W p l e room_1 s m args below meth c H locs (c0 + 30) (s0 + 9152) Q (F0 m 2580 ls [])) : W p l e room_1 s m args below meth c H locs c0 s0 Q (F0 m 2435 ls []) := by
  have hx := E.1
  have hb := E.2.1
  have hg : Gr S S := Gr.rf
  rw [gl_32] at h
  refine lv_aload_n hx hb dL_law_2435 rfl (lv_at hl 1 rfl) ?_
  refine lv_aload_n hx hb dL_law_2436 rfl (lv_at hl 0 rfl) ?_
  refine lv_iload hx hb dL_law_2437 (lv_at hl 4 rfl) ?_
  refine lv_iconst (v := 1) hx hb dL_law_2439 (by decide) ?_
  refine lv_iadd hx hb dL_law_2440 ?_
  obtain ⟨c1, h⟩ := h
  refine va_sld hx hb hX hbl hbA hw.2.2 (ib_in c1) dL_law_2441 ?_
  refine lv_aload_n hx hb dL_law_2442 rfl (lv_at hl 0 rfl) ?_
  refine lv_iload hx hb dL_law_2443 (lv_at hl 4 rfl) ?_
  refine lv_iconst (v := 2) hx hb dL_law_2445 (by decide) ?_
  refine lv_iadd hx hb dL_law_2446 ?_
  obtain ⟨c2, h⟩ := h
  refine va_sld hx hb hX hbl hbA hw.2.2 (ib_in c2) dL_law_2447 ?_
  refine lv_aload_n hx hb dL_law_2448 rfl (lv_at hl 3 rfl) ?_
  refine l_SI E F hw [.ref o1, .int (xs (Int32.toNatClampNeg (x4 + (1 : Int32)))), .int (xs (Int32.toNatClampNeg (x4 + (2 : Int32)))), .ref o3] (k_L_when l hst D cy kc o1 (xs (Int32.toNatClampNeg (x4 + (1 : Int32)))) (xs (Int32.toNatClampNeg (x4 + (2 : Int32)))) o3 S h t_o1 t_o3) lk_L_when ml_L_214 ⟨by decide, by decide⟩ rfl hl.1 rfl (Nat.le_of_ble_eq_true rfl) dL_law_2449 ⟨(by first | omega | (simp only [rmK, room_1]; omega)), (by first | omega | (simp only [rmK, room_1]; omega))⟩ (fun r4 S3 H locs h hw hG => ?_)
  have t_o1 := hG.t t_o1
  have t_o2 := hG.t t_o2
  have t_o3 := hG.t t_o3
  have hg := hg.tr hG
  refine lv_istore (lv' := [(5, .int r4), (0, .ref b), (1, .ref o1), (2, .ref o2), (3, .ref o3), (4, .int x4)]) hx hb dL_law_2452 hl (by decide) rfl (fun ls hl => ?_)
  refine lv_aload_n hx hb dL_law_2454 rfl (lv_at hl 3 rfl) ?_
  refine lv_aload_n hx hb dL_law_2455 rfl (lv_at hl 1 rfl) ?_
  refine lv_iload hx hb dL_law_2456 (lv_at hl 5 rfl) ?_
  refine lv_iconst (v := 1) hx hb dL_law_2458 (by decide) ?_
  refine lv_iadd hx hb dL_law_2459 ?_
  obtain ⟨c5, h⟩ := h
  refine va_sld hx hb hX hbl hbA hw.2.2 (ib_in c5) dL_law_2460 ?_
  refine lv_aload_n hx hb dL_law_2461 rfl (lv_at hl 1 rfl) ?_
  refine lv_iload hx hb dL_law_2462 (lv_at hl 5 rfl) ?_
  refine lv_iconst (v := 2) hx hb dL_law_2464 (by decide) ?_
  refine lv_iadd hx hb dL_law_2465 ?_
  obtain ⟨c6, h⟩ := h
  refine va_sld hx hb hX hbl hbA hw.2.2 (ib_in c6) dL_law_2466 ?_
  obtain ⟨q7, h_q7, h⟩ := h
  refine z_VJ E F hw [.int (xs (Int32.toNatClampNeg (x4 + (1 : Int32)))), .int (xs (Int32.toNatClampNeg (x4 + (2 : Int32))))] (k_X11_when l D cy kc o2 (xs (Int32.toNatClampNeg (x4 + (1 : Int32)))) (xs (Int32.toNatClampNeg (x4 + (2 : Int32)))) S3 h_q7 t_o2) t_o2 cf11 mk_X11_when vk_X11_when ml_L_216 ⟨by decide, by decide⟩ rfl hl.1 rfl (Nat.le_of_ble_eq_true rfl) dL_law_2467 ⟨(by first | omega | (simp only [rmK, room_1]; omega)), (by first | omega | (simp only [rmK, room_1]; omega))⟩ (fun H locs hw hG => ?_)
  have t_o1 := hG.t t_o1
  have t_o2 := hG.t t_o2
  have t_o3 := hG.t t_o3
  have hg := hg.tr hG
  refine lv_lstore (lv' := [(6, .long q7.1), (5, .int r4), (0, .ref b), (1, .ref o1), (2, .ref o2), (3, .ref o3), (4, .int x4)]) hx hb dL_law_2470 hl (by decide) rfl (fun ls hl => ?_)
  refine lv_aload_n hx hb dL_law_2472 rfl (lv_at hl 4 rfl) ?_
  obtain ⟨q8, h_q8, h⟩ := h
  refine z_VI E F hw [] (k_X11_thrown l D cy kc o2 q7.2 h_q8 t_o2) t_o2 cf11 mk_X11_thrown vk_X11_thrown ml_L_102 ⟨by decide, by decide⟩ rfl hl.1 rfl (Nat.le_of_ble_eq_true rfl) dL_law_2473 ⟨(by first | omega | (simp only [rmK, room_1]; omega)), (by first | omega | (simp only [rmK, room_1]; omega))⟩ (fun H locs hw hG => ?_)
  have t_o1 := hG.t t_o1
  have t_o2 := hG.t t_o2
  have t_o3 := hG.t t_o3
  have hg := hg.tr hG
  refine lv_iload hx hb dL_law_2476 (lv_at hl 1 rfl) ?_
  refine lv_icmp_eq (tgt := 2483) hx hb dL_law_2478 (by decide) (fun c9 => ?_) (fun c9 => ?_)
  · replace h := h.1 c9
    refine lv_iload hx hb dL_law_2483 (lv_at hl 1 rfl) ?_
    refine lv_if_ne (tgt := 2499) hx hb dL_law_2485 (by decide) (fun c10 => ?_) (fun c10 => ?_)
    · replace h := h.2 c10
      refine lv_goto (tgt := 2580) hx hb dL_law_2499 (by decide) ?_
      exact W.widen (by first | omega | (simp only [rmK, room_1]; omega)) (by first | omega | (simp only [rmK, room_1]; omega)) (kk q8.2 _ _ _ h hw t_o1 t_o2 t_o3 (lv_sub hl [2, 3, 4, 5, 6] rfl))
    · replace h := h.1 c10
      refine lv_aload_n hx hb dL_law_2488 rfl (lv_at hl 5 rfl) ?_
      refine lv_iconst (v := 0) hx hb dL_law_2489 (by decide) ?_
      obtain ⟨c11, h⟩ := h
      refine a_j E F hw t_o3 c11 dL_law_2490 ?_
      refine lv_lload hx hb dL_law_2491 (lv_at hl 0 rfl) ?_
      refine W.lcmp hx hb dL_law_2493 ?_
      refine lv_if_eq (tgt := 2499) hx hb dL_law_2494 (by decide) (fun c12 => ?_) (fun c12 => ?_)
      · replace h := h.1 c12
        refine lv_goto (tgt := 2580) hx hb dL_law_2499 (by decide) ?_
        exact W.widen (by first | omega | (simp only [rmK, room_1]; omega)) (by first | omega | (simp only [rmK, room_1]; omega)) (kk q8.2 _ _ _ h hw t_o1 t_o2 t_o3 (lv_sub hl [2, 3, 4, 5, 6] rfl))
      · replace h := h.2 c12
        exact h.elim
  · replace h := h.2 c9
    exact h.elim
def gl_33 (L : Nat) (xs : Nat → Int32) (o1 o2 o3 : Nat) (x4 : Int32) (S : PS) (K : PS → Prop) : Prop :=
  (ib (x4 + (1 : Int32)) L = true) ∧ ((ib (x4 + (2 : Int32)) L = true) ∧ ((((xs (Int32.toNatClampNeg (x4 + (2 : Int32)))) = (0 : Int32) → (∃ q4, (f_X10_mark o1 (xs (Int32.toNatClampNeg (x4 + (1 : Int32)))) (0 : Int32) S) = some q4 ∧ ((ib (x4 + (1 : Int32)) L = true) ∧ ((ib (x4 + (2 : Int32)) L = true) ∧ ((((xs (Int32.toNatClampNeg (x4 + (2 : Int32)))) = (0 : Int32) → (∃ q8, (f_X11_mark o2 (xs (Int32.toNatClampNeg (x4 + (1 : Int32)))) (0 : Int32) q4.2) = some q8 ∧ (((q4.1 = q8.1 → (K q8.2)) ∧ (¬ q4.1 = q8.1 → (False)))))) ∧ (¬ (xs (Int32.toNatClampNeg (x4 + (2 : Int32)))) = (0 : Int32) → (∃ q10, (f_X11_mark o2 (xs (Int32.toNatClampNeg (x4 + (1 : Int32)))) (1 : Int32) q4.2) = some q10 ∧ (((q4.1 = q10.1 → (K q10.2)) ∧ (¬ q4.1 = q10.1 → (False)))))))))))) ∧ (¬ (xs (Int32.toNatClampNeg (x4 + (2 : Int32)))) = (0 : Int32) → (∃ q12, (f_X10_mark o1 (xs (Int32.toNatClampNeg (x4 + (1 : Int32)))) (1 : Int32) S) = some q12 ∧ ((ib (x4 + (1 : Int32)) L = true) ∧ ((ib (x4 + (2 : Int32)) L = true) ∧ ((((xs (Int32.toNatClampNeg (x4 + (2 : Int32)))) = (0 : Int32) → (∃ q16, (f_X11_mark o2 (xs (Int32.toNatClampNeg (x4 + (1 : Int32)))) (0 : Int32) q12.2) = some q16 ∧ (((q12.1 = q16.1 → (K q16.2)) ∧ (¬ q12.1 = q16.1 → (False)))))) ∧ (¬ (xs (Int32.toNatClampNeg (x4 + (2 : Int32)))) = (0 : Int32) → (∃ q18, (f_X11_mark o2 (xs (Int32.toNatClampNeg (x4 + (1 : Int32)))) (1 : Int32) q12.2) = some q18 ∧ (((q12.1 = q18.1 → (K q18.2)) ∧ (¬ q12.1 = q18.1 → (False)))))))))))))))
set_option maxHeartbeats 4000000 in
theorem lc_33 {p : Program} {l : Launch} {e : Env} {s : State} {m : MethodId} {args : Array Value} {below : List Frame} {meth : Method} {c : Code} {H : Heap} {locs : List Loc} {ls : Array Slot} {Q : State → Prop} {D : va_G} {cy : Nat → ClassId} {kc : Nat → Nat} {A : Nat → Prop} {b L : Nat} {xs : Nat → Int32} {c0 s0 : Nat} (hst : l.stackTraces = false) (E : CallFix p m c cL_law 8 s args LW RL) (F : Fx D cy kc A s) (hX : va_X b L xs s s.heap) (hbl : b < s.heap.size) (hbA : ¬ A b) (o1 o2 o3 : Nat) (x4 : Int32) (S : PS) {K : PS → Prop} (h : gl_33 L xs o1 o2 o3 x4 S K) (hc : c0 + 30 ≤ 601024) (hs : s0 + 9152 ≤ 7293034) (hw : Wd D cy A s H locs S) (t_o1 : tD S o1 10) (t_o2 : tD S o2 11) (t_o3 : tD S o3 14) (hl : lv_has ls 8 [(0, .ref b), (1, .ref o1), (2, .ref o2), (3, .ref o3), (4, .int x4)])
    (kk : ∀ (S1 : PS) (H : Heap) (locs : List Loc) (ls : Array Slot), K S1 → Wd D cy A s H locs S1 → tD S1 o1 10 → tD S1 o2 11 → tD S1 o3 14 → lv_has ls 8 [(0, .ref b), (1, .ref o1), (2, .ref o2), (3, .ref o3), (4, .int x4)] → W p l e room_1 s m args below meth c H locs (c0 + 30) (s0 + 9152) Q (F0 m 2580 ls [])) : W p l e room_1 s m args below meth c H locs c0 s0 Q (F0 m 2502 ls []) := by
  have hx := E.1
  have hb := E.2.1
  have hg : Gr S S := Gr.rf
  rw [gl_33] at h
  refine lv_aload_n hx hb dL_law_2502 rfl (lv_at hl 1 rfl) ?_
  refine lv_aload_n hx hb dL_law_2503 rfl (lv_at hl 0 rfl) ?_
  refine lv_iload hx hb dL_law_2504 (lv_at hl 4 rfl) ?_
  refine lv_iconst (v := 1) hx hb dL_law_2506 (by decide) ?_
  refine lv_iadd hx hb dL_law_2507 ?_
  obtain ⟨c1, h⟩ := h
  refine va_sld hx hb hX hbl hbA hw.2.2 (ib_in c1) dL_law_2508 ?_
  refine lv_aload_n hx hb dL_law_2509 rfl (lv_at hl 0 rfl) ?_
  refine lv_iload hx hb dL_law_2510 (lv_at hl 4 rfl) ?_
  refine lv_iconst (v := 2) hx hb dL_law_2512 (by decide) ?_
  refine lv_iadd hx hb dL_law_2513 ?_
  obtain ⟨c2, h⟩ := h
  refine va_sld hx hb hX hbl hbA hw.2.2 (ib_in c2) dL_law_2514 ?_
  refine lv_if_eq (tgt := 2522) hx hb dL_law_2515 (by decide) (fun c3 => ?_) (fun c3 => ?_)
  · replace h := h.1 c3
    refine lv_iconst (v := 0) hx hb dL_law_2522 (by decide) ?_
    obtain ⟨q4, h_q4, h⟩ := h
    refine z_VI E F hw [.int (xs (Int32.toNatClampNeg (x4 + (1 : Int32)))), .int (0 : Int32)] (k_X10_mark l D cy kc o1 (xs (Int32.toNatClampNeg (x4 + (1 : Int32)))) (0 : Int32) S h_q4 t_o1) t_o1 cf10 mk_X10_mark vk_X10_mark ml_L_217 ⟨by decide, by decide⟩ rfl hl.1 rfl (Nat.le_of_ble_eq_true rfl) dL_law_2523 ⟨(by first | omega | (simp only [rmK, room_1]; omega)), (by first | omega | (simp only [rmK, room_1]; omega))⟩ (fun H locs hw hG => ?_)
    have t_o1 := hG.t t_o1
    have t_o2 := hG.t t_o2
    have t_o3 := hG.t t_o3
    have hg := hg.tr hG
    refine lv_aload_n hx hb dL_law_2526 rfl (lv_at hl 2 rfl) ?_
    refine lv_aload_n hx hb dL_law_2527 rfl (lv_at hl 0 rfl) ?_
    refine lv_iload hx hb dL_law_2528 (lv_at hl 4 rfl) ?_
    refine lv_iconst (v := 1) hx hb dL_law_2530 (by decide) ?_
    refine lv_iadd hx hb dL_law_2531 ?_
    obtain ⟨c5, h⟩ := h
    refine va_sld hx hb hX hbl hbA hw.2.2 (ib_in c5) dL_law_2532 ?_
    refine lv_aload_n hx hb dL_law_2533 rfl (lv_at hl 0 rfl) ?_
    refine lv_iload hx hb dL_law_2534 (lv_at hl 4 rfl) ?_
    refine lv_iconst (v := 2) hx hb dL_law_2536 (by decide) ?_
    refine lv_iadd hx hb dL_law_2537 ?_
    obtain ⟨c6, h⟩ := h
    refine va_sld hx hb hX hbl hbA hw.2.2 (ib_in c6) dL_law_2538 ?_
    refine lv_if_eq (tgt := 2546) hx hb dL_law_2539 (by decide) (fun c7 => ?_) (fun c7 => ?_)
    · replace h := h.1 c7
      refine lv_iconst (v := 0) hx hb dL_law_2546 (by decide) ?_
      obtain ⟨q8, h_q8, h⟩ := h
      refine z_VI E F hw [.int (xs (Int32.toNatClampNeg (x4 + (1 : Int32)))), .int (0 : Int32)] (k_X11_mark l D cy kc o2 (xs (Int32.toNatClampNeg (x4 + (1 : Int32)))) (0 : Int32) q4.2 h_q8 t_o2) t_o2 cf11 mk_X11_mark vk_X11_mark ml_L_220 ⟨by decide, by decide⟩ rfl hl.1 rfl (Nat.le_of_ble_eq_true rfl) dL_law_2547 ⟨(by first | omega | (simp only [rmK, room_1]; omega)), (by first | omega | (simp only [rmK, room_1]; omega))⟩ (fun H locs hw hG => ?_)
      have t_o1 := hG.t t_o1
      have t_o2 := hG.t t_o2
      have t_o3 := hG.t t_o3
      have hg := hg.tr hG
      refine lv_icmp_eq (tgt := 2580) hx hb dL_law_2550 (by decide) (fun c9 => ?_) (fun c9 => ?_)
      · replace h := h.1 c9
        exact W.widen (by first | omega | (simp only [rmK, room_1]; omega)) (by first | omega | (simp only [rmK, room_1]; omega)) (kk q8.2 _ _ _ h hw t_o1 t_o2 t_o3 (lv_sub hl [0, 1, 2, 3, 4] rfl))
      · replace h := h.2 c9
        exact h.elim
    · replace h := h.2 c7
      refine lv_iconst (v := 1) hx hb dL_law_2542 (by decide) ?_
      refine lv_goto (tgt := 2547) hx hb dL_law_2543 (by decide) ?_
      obtain ⟨q10, h_q10, h⟩ := h
      refine z_VI E F hw [.int (xs (Int32.toNatClampNeg (x4 + (1 : Int32)))), .int (1 : Int32)] (k_X11_mark l D cy kc o2 (xs (Int32.toNatClampNeg (x4 + (1 : Int32)))) (1 : Int32) q4.2 h_q10 t_o2) t_o2 cf11 mk_X11_mark vk_X11_mark ml_L_220 ⟨by decide, by decide⟩ rfl hl.1 rfl (Nat.le_of_ble_eq_true rfl) dL_law_2547 ⟨(by first | omega | (simp only [rmK, room_1]; omega)), (by first | omega | (simp only [rmK, room_1]; omega))⟩ (fun H locs hw hG => ?_)
      have t_o1 := hG.t t_o1
      have t_o2 := hG.t t_o2
      have t_o3 := hG.t t_o3
      have hg := hg.tr hG
      refine lv_icmp_eq (tgt := 2580) hx hb dL_law_2550 (by decide) (fun c11 => ?_) (fun c11 => ?_)
      · replace h := h.1 c11
        exact W.widen (by first | omega | (simp only [rmK, room_1]; omega)) (by first | omega | (simp only [rmK, room_1]; omega)) (kk q10.2 _ _ _ h hw t_o1 t_o2 t_o3 (lv_sub hl [0, 1, 2, 3, 4] rfl))
      · replace h := h.2 c11
        exact h.elim
  · replace h := h.2 c3
    refine lv_iconst (v := 1) hx hb dL_law_2518 (by decide) ?_
    refine lv_goto (tgt := 2523) hx hb dL_law_2519 (by decide) ?_
    obtain ⟨q12, h_q12, h⟩ := h
    refine z_VI E F hw [.int (xs (Int32.toNatClampNeg (x4 + (1 : Int32)))), .int (1 : Int32)] (k_X10_mark l D cy kc o1 (xs (Int32.toNatClampNeg (x4 + (1 : Int32)))) (1 : Int32) S h_q12 t_o1) t_o1 cf10 mk_X10_mark vk_X10_mark ml_L_217 ⟨by decide, by decide⟩ rfl hl.1 rfl (Nat.le_of_ble_eq_true rfl) dL_law_2523 ⟨(by first | omega | (simp only [rmK, room_1]; omega)), (by first | omega | (simp only [rmK, room_1]; omega))⟩ (fun H locs hw hG => ?_)
    have t_o1 := hG.t t_o1
    have t_o2 := hG.t t_o2
    have t_o3 := hG.t t_o3
    have hg := hg.tr hG
    refine lv_aload_n hx hb dL_law_2526 rfl (lv_at hl 2 rfl) ?_
    refine lv_aload_n hx hb dL_law_2527 rfl (lv_at hl 0 rfl) ?_
    refine lv_iload hx hb dL_law_2528 (lv_at hl 4 rfl) ?_
    refine lv_iconst (v := 1) hx hb dL_law_2530 (by decide) ?_
    refine lv_iadd hx hb dL_law_2531 ?_
    obtain ⟨c13, h⟩ := h
    refine va_sld hx hb hX hbl hbA hw.2.2 (ib_in c13) dL_law_2532 ?_
    refine lv_aload_n hx hb dL_law_2533 rfl (lv_at hl 0 rfl) ?_
    refine lv_iload hx hb dL_law_2534 (lv_at hl 4 rfl) ?_
    refine lv_iconst (v := 2) hx hb dL_law_2536 (by decide) ?_
    refine lv_iadd hx hb dL_law_2537 ?_
    obtain ⟨c14, h⟩ := h
    refine va_sld hx hb hX hbl hbA hw.2.2 (ib_in c14) dL_law_2538 ?_
    refine lv_if_eq (tgt := 2546) hx hb dL_law_2539 (by decide) (fun c15 => ?_) (fun c15 => ?_)
    · replace h := h.1 c15
      refine lv_iconst (v := 0) hx hb dL_law_2546 (by decide) ?_
      obtain ⟨q16, h_q16, h⟩ := h
      refine z_VI E F hw [.int (xs (Int32.toNatClampNeg (x4 + (1 : Int32)))), .int (0 : Int32)] (k_X11_mark l D cy kc o2 (xs (Int32.toNatClampNeg (x4 + (1 : Int32)))) (0 : Int32) q12.2 h_q16 t_o2) t_o2 cf11 mk_X11_mark vk_X11_mark ml_L_220 ⟨by decide, by decide⟩ rfl hl.1 rfl (Nat.le_of_ble_eq_true rfl) dL_law_2547 ⟨(by first | omega | (simp only [rmK, room_1]; omega)), (by first | omega | (simp only [rmK, room_1]; omega))⟩ (fun H locs hw hG => ?_)
      have t_o1 := hG.t t_o1
      have t_o2 := hG.t t_o2
      have t_o3 := hG.t t_o3
      have hg := hg.tr hG
      refine lv_icmp_eq (tgt := 2580) hx hb dL_law_2550 (by decide) (fun c17 => ?_) (fun c17 => ?_)
      · replace h := h.1 c17
        exact W.widen (by first | omega | (simp only [rmK, room_1]; omega)) (by first | omega | (simp only [rmK, room_1]; omega)) (kk q16.2 _ _ _ h hw t_o1 t_o2 t_o3 (lv_sub hl [0, 1, 2, 3, 4] rfl))
      · replace h := h.2 c17
        exact h.elim
    · replace h := h.2 c15
      refine lv_iconst (v := 1) hx hb dL_law_2542 (by decide) ?_
      refine lv_goto (tgt := 2547) hx hb dL_law_2543 (by decide) ?_
      obtain ⟨q18, h_q18, h⟩ := h
      refine z_VI E F hw [.int (xs (Int32.toNatClampNeg (x4 + (1 : Int32)))), .int (1 : Int32)] (k_X11_mark l D cy kc o2 (xs (Int32.toNatClampNeg (x4 + (1 : Int32)))) (1 : Int32) q12.2 h_q18 t_o2) t_o2 cf11 mk_X11_mark vk_X11_mark ml_L_220 ⟨by decide, by decide⟩ rfl hl.1 rfl (Nat.le_of_ble_eq_true rfl) dL_law_2547 ⟨(by first | omega | (simp only [rmK, room_1]; omega)), (by first | omega | (simp only [rmK, room_1]; omega))⟩ (fun H locs hw hG => ?_)
      have t_o1 := hG.t t_o1
      have t_o2 := hG.t t_o2
      have t_o3 := hG.t t_o3
      have hg := hg.tr hG
      refine lv_icmp_eq (tgt := 2580) hx hb dL_law_2550 (by decide) (fun c19 => ?_) (fun c19 => ?_)
      · replace h := h.1 c19
        exact W.widen (by first | omega | (simp only [rmK, room_1]; omega)) (by first | omega | (simp only [rmK, room_1]; omega)) (kk q18.2 _ _ _ h hw t_o1 t_o2 t_o3 (lv_sub hl [0, 1, 2, 3, 4] rfl))
      · replace h := h.2 c19
        exact h.elim
def gl_34 (L : Nat) (xs : Nat → Int32) (o1 o2 o3 : Nat) (x4 : Int32) (S : PS) (K : PS → Prop) : Prop :=
  (ib (x4 + (1 : Int32)) L = true) ∧ (∃ q2, (f_X10_count o1 (xs (Int32.toNatClampNeg (x4 + (1 : Int32)))) S) = some q2 ∧ ((ib (x4 + (1 : Int32)) L = true) ∧ (∃ q4, (f_X11_count o2 (xs (Int32.toNatClampNeg (x4 + (1 : Int32)))) q2.2) = some q4 ∧ (((q2.1 = q4.1 → (K q4.2)) ∧ (¬ q2.1 = q4.1 → (False)))))))
set_option maxHeartbeats 4000000 in
theorem lc_34 {p : Program} {l : Launch} {e : Env} {s : State} {m : MethodId} {args : Array Value} {below : List Frame} {meth : Method} {c : Code} {H : Heap} {locs : List Loc} {ls : Array Slot} {Q : State → Prop} {D : va_G} {cy : Nat → ClassId} {kc : Nat → Nat} {A : Nat → Prop} {b L : Nat} {xs : Nat → Int32} {c0 s0 : Nat} (hst : l.stackTraces = false) (E : CallFix p m c cL_law 8 s args LW RL) (F : Fx D cy kc A s) (hX : va_X b L xs s s.heap) (hbl : b < s.heap.size) (hbA : ¬ A b) (o1 o2 o3 : Nat) (x4 : Int32) (S : PS) {K : PS → Prop} (h : gl_34 L xs o1 o2 o3 x4 S K) (hc : c0 + 30 ≤ 601024) (hs : s0 + 9152 ≤ 7293034) (hw : Wd D cy A s H locs S) (t_o1 : tD S o1 10) (t_o2 : tD S o2 11) (t_o3 : tD S o3 14) (hl : lv_has ls 8 [(0, .ref b), (1, .ref o1), (2, .ref o2), (3, .ref o3), (4, .int x4)])
    (kk : ∀ (S1 : PS) (H : Heap) (locs : List Loc) (ls : Array Slot), K S1 → Wd D cy A s H locs S1 → tD S1 o1 10 → tD S1 o2 11 → tD S1 o3 14 → lv_has ls 8 [(0, .ref b), (1, .ref o1), (2, .ref o2), (3, .ref o3), (4, .int x4)] → W p l e room_1 s m args below meth c H locs (c0 + 30) (s0 + 9152) Q (F0 m 2580 ls [])) : W p l e room_1 s m args below meth c H locs c0 s0 Q (F0 m 2555 ls []) := by
  have hx := E.1
  have hb := E.2.1
  have hg : Gr S S := Gr.rf
  rw [gl_34] at h
  refine lv_aload_n hx hb dL_law_2555 rfl (lv_at hl 1 rfl) ?_
  refine lv_aload_n hx hb dL_law_2556 rfl (lv_at hl 0 rfl) ?_
  refine lv_iload hx hb dL_law_2557 (lv_at hl 4 rfl) ?_
  refine lv_iconst (v := 1) hx hb dL_law_2559 (by decide) ?_
  refine lv_iadd hx hb dL_law_2560 ?_
  obtain ⟨c1, h⟩ := h
  refine va_sld hx hb hX hbl hbA hw.2.2 (ib_in c1) dL_law_2561 ?_
  obtain ⟨q2, h_q2, h⟩ := h
  refine z_VI E F hw [.int (xs (Int32.toNatClampNeg (x4 + (1 : Int32))))] (k_X10_count l D cy kc o1 (xs (Int32.toNatClampNeg (x4 + (1 : Int32)))) S h_q2 t_o1) t_o1 cf10 mk_X10_count vk_X10_count ml_L_221 ⟨by decide, by decide⟩ rfl hl.1 rfl (Nat.le_of_ble_eq_true rfl) dL_law_2562 ⟨(by first | omega | (simp only [rmK, room_1]; omega)), (by first | omega | (simp only [rmK, room_1]; omega))⟩ (fun H locs hw hG => ?_)
  have t_o1 := hG.t t_o1
  have t_o2 := hG.t t_o2
  have t_o3 := hG.t t_o3
  have hg := hg.tr hG
  refine lv_aload_n hx hb dL_law_2565 rfl (lv_at hl 2 rfl) ?_
  refine lv_aload_n hx hb dL_law_2566 rfl (lv_at hl 0 rfl) ?_
  refine lv_iload hx hb dL_law_2567 (lv_at hl 4 rfl) ?_
  refine lv_iconst (v := 1) hx hb dL_law_2569 (by decide) ?_
  refine lv_iadd hx hb dL_law_2570 ?_
  obtain ⟨c3, h⟩ := h
  refine va_sld hx hb hX hbl hbA hw.2.2 (ib_in c3) dL_law_2571 ?_
  obtain ⟨q4, h_q4, h⟩ := h
  refine z_VI E F hw [.int (xs (Int32.toNatClampNeg (x4 + (1 : Int32))))] (k_X11_count l D cy kc o2 (xs (Int32.toNatClampNeg (x4 + (1 : Int32)))) q2.2 h_q4 t_o2) t_o2 cf11 mk_X11_count vk_X11_count ml_L_224 ⟨by decide, by decide⟩ rfl hl.1 rfl (Nat.le_of_ble_eq_true rfl) dL_law_2572 ⟨(by first | omega | (simp only [rmK, room_1]; omega)), (by first | omega | (simp only [rmK, room_1]; omega))⟩ (fun H locs hw hG => ?_)
  have t_o1 := hG.t t_o1
  have t_o2 := hG.t t_o2
  have t_o3 := hG.t t_o3
  have hg := hg.tr hG
  refine lv_icmp_eq (tgt := 2580) hx hb dL_law_2575 (by decide) (fun c5 => ?_) (fun c5 => ?_)
  · replace h := h.1 c5
    exact W.widen (by first | omega | (simp only [rmK, room_1]; omega)) (by first | omega | (simp only [rmK, room_1]; omega)) (kk q4.2 _ _ _ h hw t_o1 t_o2 t_o3 (lv_sub hl [0, 1, 2, 3, 4] rfl))
  · replace h := h.2 c5
    exact h.elim
