/-! THE LAW, case by case -/
theorem lcmp_self (z : Int64) : lg_cmp z z = 0 := by unfold lg_cmp; simp
set_option maxHeartbeats 4000000 in
set_option maxRecDepth 100000 in
theorem law_c0 {p : Program} {l : Launch} {e : Env} {s : State} {m : MethodId} {below : List Frame} {meth : Method} {c : Code} {Q : State → Prop} {D : va_G} {ad : Nat → Nat} {cI cW : ClassId} {A : Nat → Prop} {b L : Nat} {xs : Nat → Int32} {x3 : Int32} {a : Ab} {J : AH} {H : Heap} {locs : List Loc} {ls : Array Slot} (C1 : LA p s m c D cI cW ad A b L xs) (hJ : LWS D cI cW ad A s a J H locs) (hl : lv_has ls 4 [(0, .ref b), (1, .ref (ad 0)), (2, .ref (ad 120)), (3, .int x3)]) (hin : ∀ d, d ≤ 6 → vp_in (x3 + nI d) L) (kk : ∀ (a2 : Ab) (J2 : AH) (H2 : Heap) (locs2 : List Loc), LWS D cI cW ad A s a2 J2 H2 locs2 → W p l e room_1 s m #[Value.ref b] below meth c H2 locs2 600000 7302250 Q (F0 m 1630 ls [])) : W p l e room_1 s m #[Value.ref b] below meth c H locs 600000 7302250 Q (F0 m 236 ls []) := by
  obtain ⟨hx, hb, hml, hown, hts, hK, hNW, hAx, hA, hX, hbl, hbA⟩ := C1
  obtain ⟨hJS, hJl, hP, hS⟩ := hJ
  obtain ⟨fs, hc0⟩ := js_c hJS
  have hp := j_pair (mk := Value.int) (xs := [xs (x3 + nI 1).toNatClampNeg]) (fun _ _ => rfl) pr_feed hJS
  refine lv_aload_n hx hb dL_236 rfl (lv_at hl 1 rfl) ?_
  refine lv_aload_n hx hb dL_237 rfl (lv_at hl 0 rfl) ?_
  refine lv_iload_n hx hb dL_238 rfl (lv_at hl 3 rfl) ?_
  refine lv_iconst (v := nI 1) hx hb dL_239 (by decide) ?_
  refine lv_iadd hx hb dL_240 ?_
  refine va_sld hx hb hX hbl hbA hS (hin 1 (by decide)) dL_241 ?_
  refine lw_V (k := i_X11_feed) (y := me_X11_feed) (i := 0) (ci := 10) (z := ("RivetedSisters", am_F10, 12)) (As := ([xs (x3 + nI 1).toNatClampNeg].map Value.int)) (rest := []) hx hb hml hown hts hK hNW (by rw [hJl]; exact hAx) hA rfl rfl rfl rfl hc0 (hts _ (lw_lk_in _ (List.mem_of_getElem? (i := 0) rfl))) ⟨by decide, by decide⟩ ⟨Nat.le_refl _, Nat.le_refl _⟩ hp hP hS hl.1 (Nat.le_of_ble_eq_true rfl) dL_242 (fun r J1 H locs hk hlen hP hS => ?_)
  obtain ⟨-, ⟨fs1, hc1⟩, z, rfl, hm⟩ := hk
  have hJl1 : J1.length = 135 := hlen.trans hJl
  refine lv_aload_n hx hb dL_245 rfl (lv_at hl 2 rfl) ?_
  refine lv_aload_n hx hb dL_246 rfl (lv_at hl 0 rfl) ?_
  refine lv_iload_n hx hb dL_247 rfl (lv_at hl 3 rfl) ?_
  refine lv_iconst (v := nI 1) hx hb dL_248 (by decide) ?_
  refine lv_iadd hx hb dL_249 ?_
  refine va_sld hx hb hX hbl hbA hS (hin 1 (by decide)) dL_250 ?_
  refine lw_V (k := i_X12_feed) (y := me_X12_feed) (i := 120) (ci := 11) (z := ("RivetedSistersModel", am_F11, 28)) (As := ([xs (x3 + nI 1).toNatClampNeg].map Value.int)) (rest := [Value.int z]) hx hb hml hown hts hK hNW (by rw [hJl1]; exact hAx) hA rfl rfl rfl rfl hc1 (hts _ (lw_lk_in _ (List.mem_of_getElem? (i := 1) rfl))) ⟨by decide, by decide⟩ ⟨Nat.le_refl _, Nat.le_refl _⟩ hm hP hS hl.1 (Nat.le_of_ble_eq_true rfl) dL_251 (fun r J2 H locs hk hlen hP hS => ?_)
  obtain ⟨-, rfl, a2, hJ2⟩ := hk
  have hJl2 : J2.length = 135 := hlen.trans hJl1
  refine lv_icmp_eq (tgt := 1630) hx hb dL_254 (by decide) (fun _ => ?_) (fun z9 => absurd rfl z9)
  exact kk a2 J2 H locs ⟨hJ2, hJl2, hP, hS⟩
set_option maxHeartbeats 4000000 in
set_option maxRecDepth 100000 in
theorem law_c1 {p : Program} {l : Launch} {e : Env} {s : State} {m : MethodId} {below : List Frame} {meth : Method} {c : Code} {Q : State → Prop} {D : va_G} {ad : Nat → Nat} {cI cW : ClassId} {A : Nat → Prop} {b L : Nat} {xs : Nat → Int32} {x3 : Int32} {a : Ab} {J : AH} {H : Heap} {locs : List Loc} {ls : Array Slot} (C1 : LA p s m c D cI cW ad A b L xs) (hJ : LWS D cI cW ad A s a J H locs) (hl : lv_has ls 4 [(0, .ref b), (1, .ref (ad 0)), (2, .ref (ad 120)), (3, .int x3)]) (hin : ∀ d, d ≤ 6 → vp_in (x3 + nI d) L) (kk : ∀ (a2 : Ab) (J2 : AH) (H2 : Heap) (locs2 : List Loc), LWS D cI cW ad A s a2 J2 H2 locs2 → W p l e room_1 s m #[Value.ref b] below meth c H2 locs2 600000 7302250 Q (F0 m 1630 ls [])) : W p l e room_1 s m #[Value.ref b] below meth c H locs 600000 7302250 Q (F0 m 259 ls []) := by
  obtain ⟨hx, hb, hml, hown, hts, hK, hNW, hAx, hA, hX, hbl, hbA⟩ := C1
  obtain ⟨hJS, hJl, hP, hS⟩ := hJ
  obtain ⟨fs, hc0⟩ := js_c hJS
  have hp := j_pair (mk := Value.int) (xs := []) (fun _ _ => rfl) pr_valley hJS
  refine lv_aload_n hx hb dL_259 rfl (lv_at hl 1 rfl) ?_
  refine lw_V (k := i_X11_valley) (y := me_X11_valley) (i := 0) (ci := 10) (z := ("RivetedSisters", am_F10, 12)) (As := ([].map Value.int)) (rest := []) hx hb hml hown hts hK hNW (by rw [hJl]; exact hAx) hA rfl rfl rfl rfl hc0 (hts _ (lw_lk_in _ (List.mem_of_getElem? (i := 2) rfl))) ⟨by decide, by decide⟩ ⟨Nat.le_refl _, Nat.le_refl _⟩ hp hP hS hl.1 (Nat.le_of_ble_eq_true rfl) dL_260 (fun r J1 H locs hk hlen hP hS => ?_)
  obtain ⟨-, ⟨fs1, hc1⟩, z, rfl, hm⟩ := hk
  have hJl1 : J1.length = 135 := hlen.trans hJl
  refine lv_aload_n hx hb dL_263 rfl (lv_at hl 2 rfl) ?_
  refine lw_V (k := i_X12_valley) (y := me_X12_valley) (i := 120) (ci := 11) (z := ("RivetedSistersModel", am_F11, 28)) (As := ([].map Value.int)) (rest := [Value.int z]) hx hb hml hown hts hK hNW (by rw [hJl1]; exact hAx) hA rfl rfl rfl rfl hc1 (hts _ (lw_lk_in _ (List.mem_of_getElem? (i := 3) rfl))) ⟨by decide, by decide⟩ ⟨Nat.le_refl _, Nat.le_refl _⟩ hm hP hS hl.1 (Nat.le_of_ble_eq_true rfl) dL_264 (fun r J2 H locs hk hlen hP hS => ?_)
  obtain ⟨-, rfl, a2, hJ2⟩ := hk
  have hJl2 : J2.length = 135 := hlen.trans hJl1
  refine lv_icmp_eq (tgt := 1630) hx hb dL_267 (by decide) (fun _ => ?_) (fun z9 => absurd rfl z9)
  exact kk a2 J2 H locs ⟨hJ2, hJl2, hP, hS⟩
set_option maxHeartbeats 4000000 in
set_option maxRecDepth 100000 in
theorem law_c2 {p : Program} {l : Launch} {e : Env} {s : State} {m : MethodId} {below : List Frame} {meth : Method} {c : Code} {Q : State → Prop} {D : va_G} {ad : Nat → Nat} {cI cW : ClassId} {A : Nat → Prop} {b L : Nat} {xs : Nat → Int32} {x3 : Int32} {a : Ab} {J : AH} {H : Heap} {locs : List Loc} {ls : Array Slot} (C1 : LA p s m c D cI cW ad A b L xs) (hJ : LWS D cI cW ad A s a J H locs) (hl : lv_has ls 4 [(0, .ref b), (1, .ref (ad 0)), (2, .ref (ad 120)), (3, .int x3)]) (hin : ∀ d, d ≤ 6 → vp_in (x3 + nI d) L) (kk : ∀ (a2 : Ab) (J2 : AH) (H2 : Heap) (locs2 : List Loc), LWS D cI cW ad A s a2 J2 H2 locs2 → W p l e room_1 s m #[Value.ref b] below meth c H2 locs2 600000 7302250 Q (F0 m 1630 ls [])) : W p l e room_1 s m #[Value.ref b] below meth c H locs 600000 7302250 Q (F0 m 272 ls []) := by
  obtain ⟨hx, hb, hml, hown, hts, hK, hNW, hAx, hA, hX, hbl, hbA⟩ := C1
  obtain ⟨hJS, hJl, hP, hS⟩ := hJ
  obtain ⟨fs, hc0⟩ := js_c hJS
  have hp := j_pair (mk := Value.int) (xs := [xs (x3 + nI 1).toNatClampNeg, xs (x3 + nI 2).toNatClampNeg]) (fun _ _ => rfl) pr_thingOf hJS
  refine lv_aload_n hx hb dL_272 rfl (lv_at hl 1 rfl) ?_
  refine lv_aload_n hx hb dL_273 rfl (lv_at hl 0 rfl) ?_
  refine lv_iload_n hx hb dL_274 rfl (lv_at hl 3 rfl) ?_
  refine lv_iconst (v := nI 1) hx hb dL_275 (by decide) ?_
  refine lv_iadd hx hb dL_276 ?_
  refine va_sld hx hb hX hbl hbA hS (hin 1 (by decide)) dL_277 ?_
  refine lv_aload_n hx hb dL_278 rfl (lv_at hl 0 rfl) ?_
  refine lv_iload_n hx hb dL_279 rfl (lv_at hl 3 rfl) ?_
  refine lv_iconst (v := nI 2) hx hb dL_280 (by decide) ?_
  refine lv_iadd hx hb dL_281 ?_
  refine va_sld hx hb hX hbl hbA hS (hin 2 (by decide)) dL_282 ?_
  refine lw_V (k := i_X11_thingOf) (y := me_X11_thingOf) (i := 0) (ci := 10) (z := ("RivetedSisters", am_F10, 12)) (As := ([xs (x3 + nI 1).toNatClampNeg, xs (x3 + nI 2).toNatClampNeg].map Value.int)) (rest := []) hx hb hml hown hts hK hNW (by rw [hJl]; exact hAx) hA rfl rfl rfl rfl hc0 (hts _ (lw_lk_in _ (List.mem_of_getElem? (i := 4) rfl))) ⟨by decide, by decide⟩ ⟨Nat.le_refl _, Nat.le_refl _⟩ hp hP hS hl.1 (Nat.le_of_ble_eq_true rfl) dL_283 (fun r J1 H locs hk hlen hP hS => ?_)
  obtain ⟨-, ⟨fs1, hc1⟩, z, rfl, hm⟩ := hk
  have hJl1 : J1.length = 135 := hlen.trans hJl
  refine lv_aload_n hx hb dL_286 rfl (lv_at hl 2 rfl) ?_
  refine lv_aload_n hx hb dL_287 rfl (lv_at hl 0 rfl) ?_
  refine lv_iload_n hx hb dL_288 rfl (lv_at hl 3 rfl) ?_
  refine lv_iconst (v := nI 1) hx hb dL_289 (by decide) ?_
  refine lv_iadd hx hb dL_290 ?_
  refine va_sld hx hb hX hbl hbA hS (hin 1 (by decide)) dL_291 ?_
  refine lv_aload_n hx hb dL_292 rfl (lv_at hl 0 rfl) ?_
  refine lv_iload_n hx hb dL_293 rfl (lv_at hl 3 rfl) ?_
  refine lv_iconst (v := nI 2) hx hb dL_294 (by decide) ?_
  refine lv_iadd hx hb dL_295 ?_
  refine va_sld hx hb hX hbl hbA hS (hin 2 (by decide)) dL_296 ?_
  refine lw_V (k := i_X12_thingOf) (y := me_X12_thingOf) (i := 120) (ci := 11) (z := ("RivetedSistersModel", am_F11, 28)) (As := ([xs (x3 + nI 1).toNatClampNeg, xs (x3 + nI 2).toNatClampNeg].map Value.int)) (rest := [Value.int z]) hx hb hml hown hts hK hNW (by rw [hJl1]; exact hAx) hA rfl rfl rfl rfl hc1 (hts _ (lw_lk_in _ (List.mem_of_getElem? (i := 5) rfl))) ⟨by decide, by decide⟩ ⟨Nat.le_refl _, Nat.le_refl _⟩ hm hP hS hl.1 (Nat.le_of_ble_eq_true rfl) dL_297 (fun r J2 H locs hk hlen hP hS => ?_)
  obtain ⟨-, rfl, a2, hJ2⟩ := hk
  have hJl2 : J2.length = 135 := hlen.trans hJl1
  refine lv_icmp_eq (tgt := 1630) hx hb dL_300 (by decide) (fun _ => ?_) (fun z9 => absurd rfl z9)
  exact kk a2 J2 H locs ⟨hJ2, hJl2, hP, hS⟩
set_option maxHeartbeats 4000000 in
set_option maxRecDepth 100000 in
theorem law_c3 {p : Program} {l : Launch} {e : Env} {s : State} {m : MethodId} {below : List Frame} {meth : Method} {c : Code} {Q : State → Prop} {D : va_G} {ad : Nat → Nat} {cI cW : ClassId} {A : Nat → Prop} {b L : Nat} {xs : Nat → Int32} {x3 : Int32} {a : Ab} {J : AH} {H : Heap} {locs : List Loc} {ls : Array Slot} (C1 : LA p s m c D cI cW ad A b L xs) (hJ : LWS D cI cW ad A s a J H locs) (hl : lv_has ls 4 [(0, .ref b), (1, .ref (ad 0)), (2, .ref (ad 120)), (3, .int x3)]) (hin : ∀ d, d ≤ 6 → vp_in (x3 + nI d) L) (kk : ∀ (a2 : Ab) (J2 : AH) (H2 : Heap) (locs2 : List Loc), LWS D cI cW ad A s a2 J2 H2 locs2 → W p l e room_1 s m #[Value.ref b] below meth c H2 locs2 600000 7302250 Q (F0 m 1630 ls [])) : W p l e room_1 s m #[Value.ref b] below meth c H locs 600000 7302250 Q (F0 m 305 ls []) := by
  obtain ⟨hx, hb, hml, hown, hts, hK, hNW, hAx, hA, hX, hbl, hbA⟩ := C1
  obtain ⟨hJS, hJl, hP, hS⟩ := hJ
  obtain ⟨fs, hc0⟩ := js_c hJS
  have hp := j_pair (mk := Value.int) (xs := [xs (x3 + nI 1).toNatClampNeg, xs (x3 + nI 2).toNatClampNeg]) (fun _ _ => rfl) pr_place hJS
  refine lv_aload_n hx hb dL_305 rfl (lv_at hl 1 rfl) ?_
  refine lv_aload_n hx hb dL_306 rfl (lv_at hl 0 rfl) ?_
  refine lv_iload_n hx hb dL_307 rfl (lv_at hl 3 rfl) ?_
  refine lv_iconst (v := nI 1) hx hb dL_308 (by decide) ?_
  refine lv_iadd hx hb dL_309 ?_
  refine va_sld hx hb hX hbl hbA hS (hin 1 (by decide)) dL_310 ?_
  refine lv_aload_n hx hb dL_311 rfl (lv_at hl 0 rfl) ?_
  refine lv_iload_n hx hb dL_312 rfl (lv_at hl 3 rfl) ?_
  refine lv_iconst (v := nI 2) hx hb dL_313 (by decide) ?_
  refine lv_iadd hx hb dL_314 ?_
  refine va_sld hx hb hX hbl hbA hS (hin 2 (by decide)) dL_315 ?_
  refine lw_V (k := i_X11_place) (y := me_X11_place) (i := 0) (ci := 10) (z := ("RivetedSisters", am_F10, 12)) (As := ([xs (x3 + nI 1).toNatClampNeg, xs (x3 + nI 2).toNatClampNeg].map Value.int)) (rest := []) hx hb hml hown hts hK hNW (by rw [hJl]; exact hAx) hA rfl rfl rfl rfl hc0 (hts _ (lw_lk_in _ (List.mem_of_getElem? (i := 6) rfl))) ⟨by decide, by decide⟩ ⟨Nat.le_refl _, Nat.le_refl _⟩ hp hP hS hl.1 (Nat.le_of_ble_eq_true rfl) dL_316 (fun r J1 H locs hk hlen hP hS => ?_)
  obtain ⟨-, ⟨fs1, hc1⟩, z, rfl, hm⟩ := hk
  have hJl1 : J1.length = 135 := hlen.trans hJl
  refine lv_aload_n hx hb dL_319 rfl (lv_at hl 2 rfl) ?_
  refine lv_aload_n hx hb dL_320 rfl (lv_at hl 0 rfl) ?_
  refine lv_iload_n hx hb dL_321 rfl (lv_at hl 3 rfl) ?_
  refine lv_iconst (v := nI 1) hx hb dL_322 (by decide) ?_
  refine lv_iadd hx hb dL_323 ?_
  refine va_sld hx hb hX hbl hbA hS (hin 1 (by decide)) dL_324 ?_
  refine lv_aload_n hx hb dL_325 rfl (lv_at hl 0 rfl) ?_
  refine lv_iload_n hx hb dL_326 rfl (lv_at hl 3 rfl) ?_
  refine lv_iconst (v := nI 2) hx hb dL_327 (by decide) ?_
  refine lv_iadd hx hb dL_328 ?_
  refine va_sld hx hb hX hbl hbA hS (hin 2 (by decide)) dL_329 ?_
  refine lw_V (k := i_X12_place) (y := me_X12_place) (i := 120) (ci := 11) (z := ("RivetedSistersModel", am_F11, 28)) (As := ([xs (x3 + nI 1).toNatClampNeg, xs (x3 + nI 2).toNatClampNeg].map Value.int)) (rest := [Value.int z]) hx hb hml hown hts hK hNW (by rw [hJl1]; exact hAx) hA rfl rfl rfl rfl hc1 (hts _ (lw_lk_in _ (List.mem_of_getElem? (i := 7) rfl))) ⟨by decide, by decide⟩ ⟨Nat.le_refl _, Nat.le_refl _⟩ hm hP hS hl.1 (Nat.le_of_ble_eq_true rfl) dL_330 (fun r J2 H locs hk hlen hP hS => ?_)
  obtain ⟨-, rfl, a2, hJ2⟩ := hk
  have hJl2 : J2.length = 135 := hlen.trans hJl1
  refine lv_icmp_eq (tgt := 1630) hx hb dL_333 (by decide) (fun _ => ?_) (fun z9 => absurd rfl z9)
  exact kk a2 J2 H locs ⟨hJ2, hJl2, hP, hS⟩
set_option maxHeartbeats 4000000 in
set_option maxRecDepth 100000 in
theorem law_c4 {p : Program} {l : Launch} {e : Env} {s : State} {m : MethodId} {below : List Frame} {meth : Method} {c : Code} {Q : State → Prop} {D : va_G} {ad : Nat → Nat} {cI cW : ClassId} {A : Nat → Prop} {b L : Nat} {xs : Nat → Int32} {x3 : Int32} {a : Ab} {J : AH} {H : Heap} {locs : List Loc} {ls : Array Slot} (C1 : LA p s m c D cI cW ad A b L xs) (hJ : LWS D cI cW ad A s a J H locs) (hl : lv_has ls 4 [(0, .ref b), (1, .ref (ad 0)), (2, .ref (ad 120)), (3, .int x3)]) (hin : ∀ d, d ≤ 6 → vp_in (x3 + nI d) L) (kk : ∀ (a2 : Ab) (J2 : AH) (H2 : Heap) (locs2 : List Loc), LWS D cI cW ad A s a2 J2 H2 locs2 → W p l e room_1 s m #[Value.ref b] below meth c H2 locs2 600000 7302250 Q (F0 m 1630 ls [])) : W p l e room_1 s m #[Value.ref b] below meth c H locs 600000 7302250 Q (F0 m 338 ls []) := by
  obtain ⟨hx, hb, hml, hown, hts, hK, hNW, hAx, hA, hX, hbl, hbA⟩ := C1
  obtain ⟨hJS, hJl, hP, hS⟩ := hJ
  obtain ⟨fs, hc0⟩ := js_c hJS
  have hp := j_pair (mk := Value.int) (xs := [xs (x3 + nI 1).toNatClampNeg, xs (x3 + nI 2).toNatClampNeg, xs (x3 + nI 3).toNatClampNeg]) (fun _ _ => rfl) pr_thing hJS
  refine lv_aload_n hx hb dL_338 rfl (lv_at hl 1 rfl) ?_
  refine lv_aload_n hx hb dL_339 rfl (lv_at hl 0 rfl) ?_
  refine lv_iload_n hx hb dL_340 rfl (lv_at hl 3 rfl) ?_
  refine lv_iconst (v := nI 1) hx hb dL_341 (by decide) ?_
  refine lv_iadd hx hb dL_342 ?_
  refine va_sld hx hb hX hbl hbA hS (hin 1 (by decide)) dL_343 ?_
  refine lv_aload_n hx hb dL_344 rfl (lv_at hl 0 rfl) ?_
  refine lv_iload_n hx hb dL_345 rfl (lv_at hl 3 rfl) ?_
  refine lv_iconst (v := nI 2) hx hb dL_346 (by decide) ?_
  refine lv_iadd hx hb dL_347 ?_
  refine va_sld hx hb hX hbl hbA hS (hin 2 (by decide)) dL_348 ?_
  refine lv_aload_n hx hb dL_349 rfl (lv_at hl 0 rfl) ?_
  refine lv_iload_n hx hb dL_350 rfl (lv_at hl 3 rfl) ?_
  refine lv_iconst (v := nI 3) hx hb dL_351 (by decide) ?_
  refine lv_iadd hx hb dL_352 ?_
  refine va_sld hx hb hX hbl hbA hS (hin 3 (by decide)) dL_353 ?_
  refine lw_V (k := i_X11_thing) (y := me_X11_thing) (i := 0) (ci := 10) (z := ("RivetedSisters", am_F10, 12)) (As := ([xs (x3 + nI 1).toNatClampNeg, xs (x3 + nI 2).toNatClampNeg, xs (x3 + nI 3).toNatClampNeg].map Value.int)) (rest := []) hx hb hml hown hts hK hNW (by rw [hJl]; exact hAx) hA rfl rfl rfl rfl hc0 (hts _ (lw_lk_in _ (List.mem_of_getElem? (i := 8) rfl))) ⟨by decide, by decide⟩ ⟨Nat.le_refl _, Nat.le_refl _⟩ hp hP hS hl.1 (Nat.le_of_ble_eq_true rfl) dL_354 (fun r J1 H locs hk hlen hP hS => ?_)
  obtain ⟨-, ⟨fs1, hc1⟩, z, rfl, hm⟩ := hk
  have hJl1 : J1.length = 135 := hlen.trans hJl
  refine lv_aload_n hx hb dL_357 rfl (lv_at hl 2 rfl) ?_
  refine lv_aload_n hx hb dL_358 rfl (lv_at hl 0 rfl) ?_
  refine lv_iload_n hx hb dL_359 rfl (lv_at hl 3 rfl) ?_
  refine lv_iconst (v := nI 1) hx hb dL_360 (by decide) ?_
  refine lv_iadd hx hb dL_361 ?_
  refine va_sld hx hb hX hbl hbA hS (hin 1 (by decide)) dL_362 ?_
  refine lv_aload_n hx hb dL_363 rfl (lv_at hl 0 rfl) ?_
  refine lv_iload_n hx hb dL_364 rfl (lv_at hl 3 rfl) ?_
  refine lv_iconst (v := nI 2) hx hb dL_365 (by decide) ?_
  refine lv_iadd hx hb dL_366 ?_
  refine va_sld hx hb hX hbl hbA hS (hin 2 (by decide)) dL_367 ?_
  refine lv_aload_n hx hb dL_368 rfl (lv_at hl 0 rfl) ?_
  refine lv_iload_n hx hb dL_369 rfl (lv_at hl 3 rfl) ?_
  refine lv_iconst (v := nI 3) hx hb dL_370 (by decide) ?_
  refine lv_iadd hx hb dL_371 ?_
  refine va_sld hx hb hX hbl hbA hS (hin 3 (by decide)) dL_372 ?_
  refine lw_V (k := i_X12_thing) (y := me_X12_thing) (i := 120) (ci := 11) (z := ("RivetedSistersModel", am_F11, 28)) (As := ([xs (x3 + nI 1).toNatClampNeg, xs (x3 + nI 2).toNatClampNeg, xs (x3 + nI 3).toNatClampNeg].map Value.int)) (rest := [Value.int z]) hx hb hml hown hts hK hNW (by rw [hJl1]; exact hAx) hA rfl rfl rfl rfl hc1 (hts _ (lw_lk_in _ (List.mem_of_getElem? (i := 9) rfl))) ⟨by decide, by decide⟩ ⟨Nat.le_refl _, Nat.le_refl _⟩ hm hP hS hl.1 (Nat.le_of_ble_eq_true rfl) dL_373 (fun r J2 H locs hk hlen hP hS => ?_)
  obtain ⟨-, rfl, a2, hJ2⟩ := hk
  have hJl2 : J2.length = 135 := hlen.trans hJl1
  refine lv_icmp_eq (tgt := 1630) hx hb dL_376 (by decide) (fun _ => ?_) (fun z9 => absurd rfl z9)
  exact kk a2 J2 H locs ⟨hJ2, hJl2, hP, hS⟩
set_option maxHeartbeats 4000000 in
set_option maxRecDepth 100000 in
theorem law_c5 {p : Program} {l : Launch} {e : Env} {s : State} {m : MethodId} {below : List Frame} {meth : Method} {c : Code} {Q : State → Prop} {D : va_G} {ad : Nat → Nat} {cI cW : ClassId} {A : Nat → Prop} {b L : Nat} {xs : Nat → Int32} {x3 : Int32} {a : Ab} {J : AH} {H : Heap} {locs : List Loc} {ls : Array Slot} (C1 : LA p s m c D cI cW ad A b L xs) (hJ : LWS D cI cW ad A s a J H locs) (hl : lv_has ls 4 [(0, .ref b), (1, .ref (ad 0)), (2, .ref (ad 120)), (3, .int x3)]) (hin : ∀ d, d ≤ 6 → vp_in (x3 + nI d) L) (kk : ∀ (a2 : Ab) (J2 : AH) (H2 : Heap) (locs2 : List Loc), LWS D cI cW ad A s a2 J2 H2 locs2 → W p l e room_1 s m #[Value.ref b] below meth c H2 locs2 600000 7302250 Q (F0 m 1630 ls [])) : W p l e room_1 s m #[Value.ref b] below meth c H locs 600000 7302250 Q (F0 m 381 ls []) := by
  obtain ⟨hx, hb, hml, hown, hts, hK, hNW, hAx, hA, hX, hbl, hbA⟩ := C1
  obtain ⟨hJS, hJl, hP, hS⟩ := hJ
  obtain ⟨fs, hc0⟩ := js_c hJS
  have hp := j_pair (mk := Value.int) (xs := [xs (x3 + nI 1).toNatClampNeg, xs (x3 + nI 2).toNatClampNeg]) (fun _ _ => rfl) pr_drops hJS
  refine lv_aload_n hx hb dL_381 rfl (lv_at hl 1 rfl) ?_
  refine lv_aload_n hx hb dL_382 rfl (lv_at hl 0 rfl) ?_
  refine lv_iload_n hx hb dL_383 rfl (lv_at hl 3 rfl) ?_
  refine lv_iconst (v := nI 1) hx hb dL_384 (by decide) ?_
  refine lv_iadd hx hb dL_385 ?_
  refine va_sld hx hb hX hbl hbA hS (hin 1 (by decide)) dL_386 ?_
  refine lv_aload_n hx hb dL_387 rfl (lv_at hl 0 rfl) ?_
  refine lv_iload_n hx hb dL_388 rfl (lv_at hl 3 rfl) ?_
  refine lv_iconst (v := nI 2) hx hb dL_389 (by decide) ?_
  refine lv_iadd hx hb dL_390 ?_
  refine va_sld hx hb hX hbl hbA hS (hin 2 (by decide)) dL_391 ?_
  refine lw_V (k := i_X11_drops) (y := me_X11_drops) (i := 0) (ci := 10) (z := ("RivetedSisters", am_F10, 12)) (As := ([xs (x3 + nI 1).toNatClampNeg, xs (x3 + nI 2).toNatClampNeg].map Value.int)) (rest := []) hx hb hml hown hts hK hNW (by rw [hJl]; exact hAx) hA rfl rfl rfl rfl hc0 (hts _ (lw_lk_in _ (List.mem_of_getElem? (i := 10) rfl))) ⟨by decide, by decide⟩ ⟨Nat.le_refl _, Nat.le_refl _⟩ hp hP hS hl.1 (Nat.le_of_ble_eq_true rfl) dL_392 (fun r J1 H locs hk hlen hP hS => ?_)
  obtain ⟨-, ⟨fs1, hc1⟩, z, rfl, hm⟩ := hk
  have hJl1 : J1.length = 135 := hlen.trans hJl
  refine lv_aload_n hx hb dL_395 rfl (lv_at hl 2 rfl) ?_
  refine lv_aload_n hx hb dL_396 rfl (lv_at hl 0 rfl) ?_
  refine lv_iload_n hx hb dL_397 rfl (lv_at hl 3 rfl) ?_
  refine lv_iconst (v := nI 1) hx hb dL_398 (by decide) ?_
  refine lv_iadd hx hb dL_399 ?_
  refine va_sld hx hb hX hbl hbA hS (hin 1 (by decide)) dL_400 ?_
  refine lv_aload_n hx hb dL_401 rfl (lv_at hl 0 rfl) ?_
  refine lv_iload_n hx hb dL_402 rfl (lv_at hl 3 rfl) ?_
  refine lv_iconst (v := nI 2) hx hb dL_403 (by decide) ?_
  refine lv_iadd hx hb dL_404 ?_
  refine va_sld hx hb hX hbl hbA hS (hin 2 (by decide)) dL_405 ?_
  refine lw_V (k := i_X12_drops) (y := me_X12_drops) (i := 120) (ci := 11) (z := ("RivetedSistersModel", am_F11, 28)) (As := ([xs (x3 + nI 1).toNatClampNeg, xs (x3 + nI 2).toNatClampNeg].map Value.int)) (rest := [Value.int z]) hx hb hml hown hts hK hNW (by rw [hJl1]; exact hAx) hA rfl rfl rfl rfl hc1 (hts _ (lw_lk_in _ (List.mem_of_getElem? (i := 11) rfl))) ⟨by decide, by decide⟩ ⟨Nat.le_refl _, Nat.le_refl _⟩ hm hP hS hl.1 (Nat.le_of_ble_eq_true rfl) dL_406 (fun r J2 H locs hk hlen hP hS => ?_)
  obtain ⟨-, rfl, a2, hJ2⟩ := hk
  have hJl2 : J2.length = 135 := hlen.trans hJl1
  refine lv_icmp_eq (tgt := 1630) hx hb dL_409 (by decide) (fun _ => ?_) (fun z9 => absurd rfl z9)
  exact kk a2 J2 H locs ⟨hJ2, hJl2, hP, hS⟩
