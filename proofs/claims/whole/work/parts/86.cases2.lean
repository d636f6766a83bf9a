/-! THE LAW, case by case -/
set_option maxHeartbeats 4000000 in
set_option maxRecDepth 100000 in
theorem law_c6 {p : Program} {l : Launch} {e : Env} {s : State} {m : MethodId} {below : List Frame} {meth : Method} {c : Code} {Q : State → Prop} {D : va_G} {ad : Nat → Nat} {cI cW : ClassId} {A : Nat → Prop} {b L : Nat} {xs : Nat → Int32} {x3 : Int32} {a : Ab} {J : AH} {H : Heap} {locs : List Loc} {ls : Array Slot} (C1 : LA p s m c D cI cW ad A b L xs) (hJ : LWS D cI cW ad A s a J H locs) (hl : lv_has ls 4 [(0, .ref b), (1, .ref (ad 0)), (2, .ref (ad 120)), (3, .int x3)]) (hin : ∀ d, d ≤ 6 → vp_in (x3 + nI d) L) (kk : ∀ (a2 : Ab) (J2 : AH) (H2 : Heap) (locs2 : List Loc), LWS D cI cW ad A s a2 J2 H2 locs2 → W p l e room_1 s m #[Value.ref b] below meth c H2 locs2 600000 7302250 Q (F0 m 1630 ls [])) : W p l e room_1 s m #[Value.ref b] below meth c H locs 600000 7302250 Q (F0 m 414 ls []) := by
  obtain ⟨hx, hb, hml, hown, hts, hK, hNW, hAx, hA, hX, hbl, hbA⟩ := C1
  obtain ⟨hJS, hJl, hP, hS⟩ := hJ
  obtain ⟨fs, hc0⟩ := js_c hJS
  have hp := j_pair (mk := Value.int) (xs := [xs (x3 + nI 1).toNatClampNeg]) (fun _ _ => rfl) pr_mends hJS
  refine lv_aload_n hx hb dL_414 rfl (lv_at hl 1 rfl) ?_
  refine lv_aload_n hx hb dL_415 rfl (lv_at hl 0 rfl) ?_
  refine lv_iload_n hx hb dL_416 rfl (lv_at hl 3 rfl) ?_
  refine lv_iconst (v := nI 1) hx hb dL_417 (by decide) ?_
  refine lv_iadd hx hb dL_418 ?_
  refine va_sld hx hb hX hbl hbA hS (hin 1 (by decide)) dL_419 ?_
  refine lw_V (k := i_X11_mends) (y := me_X11_mends) (i := 0) (ci := 10) (z := ("RivetedSisters", am_F10, 12)) (As := ([xs (x3 + nI 1).toNatClampNeg].map Value.int)) (rest := []) hx hb hml hown hts hK hNW (by rw [hJl]; exact hAx) hA rfl rfl rfl rfl hc0 (hts _ (lw_lk_in _ (List.mem_of_getElem? (i := 12) rfl))) ⟨by decide, by decide⟩ ⟨Nat.le_refl _, Nat.le_refl _⟩ hp hP hS hl.1 (Nat.le_of_ble_eq_true rfl) dL_420 (fun r J1 H locs hk hlen hP hS => ?_)
  obtain ⟨-, ⟨fs1, hc1⟩, z, rfl, hm⟩ := hk
  have hJl1 : J1.length = 135 := hlen.trans hJl
  refine lv_aload_n hx hb dL_423 rfl (lv_at hl 2 rfl) ?_
  refine lv_aload_n hx hb dL_424 rfl (lv_at hl 0 rfl) ?_
  refine lv_iload_n hx hb dL_425 rfl (lv_at hl 3 rfl) ?_
  refine lv_iconst (v := nI 1) hx hb dL_426 (by decide) ?_
  refine lv_iadd hx hb dL_427 ?_
  refine va_sld hx hb hX hbl hbA hS (hin 1 (by decide)) dL_428 ?_
  refine lw_V (k := i_X12_mends) (y := me_X12_mends) (i := 120) (ci := 11) (z := ("RivetedSistersModel", am_F11, 28)) (As := ([xs (x3 + nI 1).toNatClampNeg].map Value.int)) (rest := [Value.int z]) hx hb hml hown hts hK hNW (by rw [hJl1]; exact hAx) hA rfl rfl rfl rfl hc1 (hts _ (lw_lk_in _ (List.mem_of_getElem? (i := 13) rfl))) ⟨by decide, by decide⟩ ⟨Nat.le_refl _, Nat.le_refl _⟩ hm hP hS hl.1 (Nat.le_of_ble_eq_true rfl) dL_429 (fun r J2 H locs hk hlen hP hS => ?_)
  obtain ⟨-, rfl, a2, hJ2⟩ := hk
  have hJl2 : J2.length = 135 := hlen.trans hJl1
  refine lv_icmp_eq (tgt := 1630) hx hb dL_432 (by decide) (fun _ => ?_) (fun z9 => absurd rfl z9)
  exact kk a2 J2 H locs ⟨hJ2, hJl2, hP, hS⟩
set_option maxHeartbeats 4000000 in
set_option maxRecDepth 100000 in
theorem law_c7 {p : Program} {l : Launch} {e : Env} {s : State} {m : MethodId} {below : List Frame} {meth : Method} {c : Code} {Q : State → Prop} {D : va_G} {ad : Nat → Nat} {cI cW : ClassId} {A : Nat → Prop} {b L : Nat} {xs : Nat → Int32} {x3 : Int32} {a : Ab} {J : AH} {H : Heap} {locs : List Loc} {ls : Array Slot} (C1 : LA p s m c D cI cW ad A b L xs) (hJ : LWS D cI cW ad A s a J H locs) (hl : lv_has ls 4 [(0, .ref b), (1, .ref (ad 0)), (2, .ref (ad 120)), (3, .int x3)]) (hin : ∀ d, d ≤ 6 → vp_in (x3 + nI d) L) (kk : ∀ (a2 : Ab) (J2 : AH) (H2 : Heap) (locs2 : List Loc), LWS D cI cW ad A s a2 J2 H2 locs2 → W p l e room_1 s m #[Value.ref b] below meth c H2 locs2 600000 7302250 Q (F0 m 1630 ls [])) : W p l e room_1 s m #[Value.ref b] below meth c H locs 600000 7302250 Q (F0 m 437 ls []) := by
  obtain ⟨hx, hb, hml, hown, hts, hK, hNW, hAx, hA, hX, hbl, hbA⟩ := C1
  obtain ⟨hJS, hJl, hP, hS⟩ := hJ
  obtain ⟨fs, hc0⟩ := js_c hJS
  have hp := j_pair (mk := Value.int) (xs := [xs (x3 + nI 1).toNatClampNeg]) (fun _ _ => rfl) pr_cuts hJS
  refine lv_aload_n hx hb dL_437 rfl (lv_at hl 1 rfl) ?_
  refine lv_aload_n hx hb dL_438 rfl (lv_at hl 0 rfl) ?_
  refine lv_iload_n hx hb dL_439 rfl (lv_at hl 3 rfl) ?_
  refine lv_iconst (v := nI 1) hx hb dL_440 (by decide) ?_
  refine lv_iadd hx hb dL_441 ?_
  refine va_sld hx hb hX hbl hbA hS (hin 1 (by decide)) dL_442 ?_
  refine lw_V (k := i_X11_cuts) (y := me_X11_cuts) (i := 0) (ci := 10) (z := ("RivetedSisters", am_F10, 12)) (As := ([xs (x3 + nI 1).toNatClampNeg].map Value.int)) (rest := []) hx hb hml hown hts hK hNW (by rw [hJl]; exact hAx) hA rfl rfl rfl rfl hc0 (hts _ (lw_lk_in _ (List.mem_of_getElem? (i := 14) rfl))) ⟨by decide, by decide⟩ ⟨Nat.le_refl _, Nat.le_refl _⟩ hp hP hS hl.1 (Nat.le_of_ble_eq_true rfl) dL_443 (fun r J1 H locs hk hlen hP hS => ?_)
  obtain ⟨-, ⟨fs1, hc1⟩, z, rfl, hm⟩ := hk
  have hJl1 : J1.length = 135 := hlen.trans hJl
  refine lv_aload_n hx hb dL_446 rfl (lv_at hl 2 rfl) ?_
  refine lv_aload_n hx hb dL_447 rfl (lv_at hl 0 rfl) ?_
  refine lv_iload_n hx hb dL_448 rfl (lv_at hl 3 rfl) ?_
  refine lv_iconst (v := nI 1) hx hb dL_449 (by decide) ?_
  refine lv_iadd hx hb dL_450 ?_
  refine va_sld hx hb hX hbl hbA hS (hin 1 (by decide)) dL_451 ?_
  refine lw_V (k := i_X12_cuts) (y := me_X12_cuts) (i := 120) (ci := 11) (z := ("RivetedSistersModel", am_F11, 28)) (As := ([xs (x3 + nI 1).toNatClampNeg].map Value.int)) (rest := [Value.int z]) hx hb hml hown hts hK hNW (by rw [hJl1]; exact hAx) hA rfl rfl rfl rfl hc1 (hts _ (lw_lk_in _ (List.mem_of_getElem? (i := 15) rfl))) ⟨by decide, by decide⟩ ⟨Nat.le_refl _, Nat.le_refl _⟩ hm hP hS hl.1 (Nat.le_of_ble_eq_true rfl) dL_452 (fun r J2 H locs hk hlen hP hS => ?_)
  obtain ⟨-, rfl, a2, hJ2⟩ := hk
  have hJl2 : J2.length = 135 := hlen.trans hJl1
  refine lv_icmp_eq (tgt := 1630) hx hb dL_455 (by decide) (fun _ => ?_) (fun z9 => absurd rfl z9)
  exact kk a2 J2 H locs ⟨hJ2, hJl2, hP, hS⟩
set_option maxHeartbeats 4000000 in
set_option maxRecDepth 100000 in
theorem law_c8 {p : Program} {l : Launch} {e : Env} {s : State} {m : MethodId} {below : List Frame} {meth : Method} {c : Code} {Q : State → Prop} {D : va_G} {ad : Nat → Nat} {cI cW : ClassId} {A : Nat → Prop} {b L : Nat} {xs : Nat → Int32} {x3 : Int32} {a : Ab} {J : AH} {H : Heap} {locs : List Loc} {ls : Array Slot} (C1 : LA p s m c D cI cW ad A b L xs) (hJ : LWS D cI cW ad A s a J H locs) (hl : lv_has ls 4 [(0, .ref b), (1, .ref (ad 0)), (2, .ref (ad 120)), (3, .int x3)]) (hin : ∀ d, d ≤ 6 → vp_in (x3 + nI d) L) (kk : ∀ (a2 : Ab) (J2 : AH) (H2 : Heap) (locs2 : List Loc), LWS D cI cW ad A s a2 J2 H2 locs2 → W p l e room_1 s m #[Value.ref b] below meth c H2 locs2 600000 7302250 Q (F0 m 1630 ls [])) : W p l e room_1 s m #[Value.ref b] below meth c H locs 600000 7302250 Q (F0 m 460 ls []) := by
  obtain ⟨hx, hb, hml, hown, hts, hK, hNW, hAx, hA, hX, hbl, hbA⟩ := C1
  obtain ⟨hJS, hJl, hP, hS⟩ := hJ
  obtain ⟨fs, hc0⟩ := js_c hJS
  have hp := j_pair (mk := Value.int) (xs := [xs (x3 + nI 1).toNatClampNeg, xs (x3 + nI 2).toNatClampNeg]) (fun _ _ => rfl) pr_changes hJS
  refine lv_aload_n hx hb dL_460 rfl (lv_at hl 1 rfl) ?_
  refine lv_aload_n hx hb dL_461 rfl (lv_at hl 0 rfl) ?_
  refine lv_iload_n hx hb dL_462 rfl (lv_at hl 3 rfl) ?_
  refine lv_iconst (v := nI 1) hx hb dL_463 (by decide) ?_
  refine lv_iadd hx hb dL_464 ?_
  refine va_sld hx hb hX hbl hbA hS (hin 1 (by decide)) dL_465 ?_
  refine lv_aload_n hx hb dL_466 rfl (lv_at hl 0 rfl) ?_
  refine lv_iload_n hx hb dL_467 rfl (lv_at hl 3 rfl) ?_
  refine lv_iconst (v := nI 2) hx hb dL_468 (by decide) ?_
  refine lv_iadd hx hb dL_469 ?_
  refine va_sld hx hb hX hbl hbA hS (hin 2 (by decide)) dL_470 ?_
  refine lw_V (k := i_X11_changes) (y := me_X11_changes) (i := 0) (ci := 10) (z := ("RivetedSisters", am_F10, 12)) (As := ([xs (x3 + nI 1).toNatClampNeg, xs (x3 + nI 2).toNatClampNeg].map Value.int)) (rest := []) hx hb hml hown hts hK hNW (by rw [hJl]; exact hAx) hA rfl rfl rfl rfl hc0 (hts _ (lw_lk_in _ (List.mem_of_getElem? (i := 16) rfl))) ⟨by decide, by decide⟩ ⟨Nat.le_refl _, Nat.le_refl _⟩ hp hP hS hl.1 (Nat.le_of_ble_eq_true rfl) dL_471 (fun r J1 H locs hk hlen hP hS => ?_)
  obtain ⟨-, ⟨fs1, hc1⟩, z, rfl, hm⟩ := hk
  have hJl1 : J1.length = 135 := hlen.trans hJl
  refine lv_aload_n hx hb dL_474 rfl (lv_at hl 2 rfl) ?_
  refine lv_aload_n hx hb dL_475 rfl (lv_at hl 0 rfl) ?_
  refine lv_iload_n hx hb dL_476 rfl (lv_at hl 3 rfl) ?_
  refine lv_iconst (v := nI 1) hx hb dL_477 (by decide) ?_
  refine lv_iadd hx hb dL_478 ?_
  refine va_sld hx hb hX hbl hbA hS (hin 1 (by decide)) dL_479 ?_
  refine lv_aload_n hx hb dL_480 rfl (lv_at hl 0 rfl) ?_
  refine lv_iload_n hx hb dL_481 rfl (lv_at hl 3 rfl) ?_
  refine lv_iconst (v := nI 2) hx hb dL_482 (by decide) ?_
  refine lv_iadd hx hb dL_483 ?_
  refine va_sld hx hb hX hbl hbA hS (hin 2 (by decide)) dL_484 ?_
  refine lw_V (k := i_X12_changes) (y := me_X12_changes) (i := 120) (ci := 11) (z := ("RivetedSistersModel", am_F11, 28)) (As := ([xs (x3 + nI 1).toNatClampNeg, xs (x3 + nI 2).toNatClampNeg].map Value.int)) (rest := [Value.int z]) hx hb hml hown hts hK hNW (by rw [hJl1]; exact hAx) hA rfl rfl rfl rfl hc1 (hts _ (lw_lk_in _ (List.mem_of_getElem? (i := 17) rfl))) ⟨by decide, by decide⟩ ⟨Nat.le_refl _, Nat.le_refl _⟩ hm hP hS hl.1 (Nat.le_of_ble_eq_true rfl) dL_485 (fun r J2 H locs hk hlen hP hS => ?_)
  obtain ⟨-, rfl, a2, hJ2⟩ := hk
  have hJl2 : J2.length = 135 := hlen.trans hJl1
  refine lv_icmp_eq (tgt := 1630) hx hb dL_488 (by decide) (fun _ => ?_) (fun z9 => absurd rfl z9)
  exact kk a2 J2 H locs ⟨hJ2, hJl2, hP, hS⟩
set_option maxHeartbeats 4000000 in
set_option maxRecDepth 100000 in
theorem law_c9 {p : Program} {l : Launch} {e : Env} {s : State} {m : MethodId} {below : List Frame} {meth : Method} {c : Code} {Q : State → Prop} {D : va_G} {ad : Nat → Nat} {cI cW : ClassId} {A : Nat → Prop} {b L : Nat} {xs : Nat → Int32} {x3 : Int32} {a : Ab} {J : AH} {H : Heap} {locs : List Loc} {ls : Array Slot} (C1 : LA p s m c D cI cW ad A b L xs) (hJ : LWS D cI cW ad A s a J H locs) (hl : lv_has ls 4 [(0, .ref b), (1, .ref (ad 0)), (2, .ref (ad 120)), (3, .int x3)]) (hin : ∀ d, d ≤ 6 → vp_in (x3 + nI d) L) (kk : ∀ (a2 : Ab) (J2 : AH) (H2 : Heap) (locs2 : List Loc), LWS D cI cW ad A s a2 J2 H2 locs2 → W p l e room_1 s m #[Value.ref b] below meth c H2 locs2 600000 7302250 Q (F0 m 1630 ls [])) : W p l e room_1 s m #[Value.ref b] below meth c H locs 600000 7302250 Q (F0 m 493 ls []) := by
  obtain ⟨hx, hb, hml, hown, hts, hK, hNW, hAx, hA, hX, hbl, hbA⟩ := C1
  obtain ⟨hJS, hJl, hP, hS⟩ := hJ
  obtain ⟨fs, hc0⟩ := js_c hJS
  have hp := j_pair (mk := Value.int) (xs := []) (fun _ _ => rfl) pr_back hJS
  refine lv_aload_n hx hb dL_493 rfl (lv_at hl 1 rfl) ?_
  refine lw_V (k := i_X11_back) (y := me_X11_back) (i := 0) (ci := 10) (z := ("RivetedSisters", am_F10, 12)) (As := ([].map Value.int)) (rest := []) hx hb hml hown hts hK hNW (by rw [hJl]; exact hAx) hA rfl rfl rfl rfl hc0 (hts _ (lw_lk_in _ (List.mem_of_getElem? (i := 18) rfl))) ⟨by decide, by decide⟩ ⟨Nat.le_refl _, Nat.le_refl _⟩ hp hP hS hl.1 (Nat.le_of_ble_eq_true rfl) dL_494 (fun r J1 H locs hk hlen hP hS => ?_)
  obtain ⟨-, ⟨fs1, hc1⟩, z, rfl, hm⟩ := hk
  have hJl1 : J1.length = 135 := hlen.trans hJl
  refine lv_aload_n hx hb dL_497 rfl (lv_at hl 2 rfl) ?_
  refine lw_V (k := i_X12_back) (y := me_X12_back) (i := 120) (ci := 11) (z := ("RivetedSistersModel", am_F11, 28)) (As := ([].map Value.int)) (rest := [Value.int z]) hx hb hml hown hts hK hNW (by rw [hJl1]; exact hAx) hA rfl rfl rfl rfl hc1 (hts _ (lw_lk_in _ (List.mem_of_getElem? (i := 19) rfl))) ⟨by decide, by decide⟩ ⟨Nat.le_refl _, Nat.le_refl _⟩ hm hP hS hl.1 (Nat.le_of_ble_eq_true rfl) dL_498 (fun r J2 H locs hk hlen hP hS => ?_)
  obtain ⟨-, rfl, a2, hJ2⟩ := hk
  have hJl2 : J2.length = 135 := hlen.trans hJl1
  refine lv_icmp_eq (tgt := 1630) hx hb dL_501 (by decide) (fun _ => ?_) (fun z9 => absurd rfl z9)
  exact kk a2 J2 H locs ⟨hJ2, hJl2, hP, hS⟩
set_option maxHeartbeats 4000000 in
set_option maxRecDepth 100000 in
theorem law_c10 {p : Program} {l : Launch} {e : Env} {s : State} {m : MethodId} {below : List Frame} {meth : Method} {c : Code} {Q : State → Prop} {D : va_G} {ad : Nat → Nat} {cI cW : ClassId} {A : Nat → Prop} {b L : Nat} {xs : Nat → Int32} {x3 : Int32} {a : Ab} {J : AH} {H : Heap} {locs : List Loc} {ls : Array Slot} (C1 : LA p s m c D cI cW ad A b L xs) (hJ : LWS D cI cW ad A s a J H locs) (hl : lv_has ls 4 [(0, .ref b), (1, .ref (ad 0)), (2, .ref (ad 120)), (3, .int x3)]) (hin : ∀ d, d ≤ 6 → vp_in (x3 + nI d) L) (kk : ∀ (a2 : Ab) (J2 : AH) (H2 : Heap) (locs2 : List Loc), LWS D cI cW ad A s a2 J2 H2 locs2 → W p l e room_1 s m #[Value.ref b] below meth c H2 locs2 600000 7302250 Q (F0 m 1630 ls [])) : W p l e room_1 s m #[Value.ref b] below meth c H locs 600000 7302250 Q (F0 m 506 ls []) := by
  obtain ⟨hx, hb, hml, hown, hts, hK, hNW, hAx, hA, hX, hbl, hbA⟩ := C1
  obtain ⟨hJS, hJl, hP, hS⟩ := hJ
  obtain ⟨fs, hc0⟩ := js_c hJS
  have hp := j_pair (mk := Value.int) (xs := [xs (x3 + nI 1).toNatClampNeg, xs (x3 + nI 2).toNatClampNeg, xs (x3 + nI 3).toNatClampNeg, xs (x3 + nI 4).toNatClampNeg]) (fun _ _ => rfl) pr_gets hJS
  refine lv_aload_n hx hb dL_506 rfl (lv_at hl 1 rfl) ?_
  refine lv_aload_n hx hb dL_507 rfl (lv_at hl 0 rfl) ?_
  refine lv_iload_n hx hb dL_508 rfl (lv_at hl 3 rfl) ?_
  refine lv_iconst (v := nI 1) hx hb dL_509 (by decide) ?_
  refine lv_iadd hx hb dL_510 ?_
  refine va_sld hx hb hX hbl hbA hS (hin 1 (by decide)) dL_511 ?_
  refine lv_aload_n hx hb dL_512 rfl (lv_at hl 0 rfl) ?_
  refine lv_iload_n hx hb dL_513 rfl (lv_at hl 3 rfl) ?_
  refine lv_iconst (v := nI 2) hx hb dL_514 (by decide) ?_
  refine lv_iadd hx hb dL_515 ?_
  refine va_sld hx hb hX hbl hbA hS (hin 2 (by decide)) dL_516 ?_
  refine lv_aload_n hx hb dL_517 rfl (lv_at hl 0 rfl) ?_
  refine lv_iload_n hx hb dL_518 rfl (lv_at hl 3 rfl) ?_
  refine lv_iconst (v := nI 3) hx hb dL_519 (by decide) ?_
  refine lv_iadd hx hb dL_520 ?_
  refine va_sld hx hb hX hbl hbA hS (hin 3 (by decide)) dL_521 ?_
  refine lv_aload_n hx hb dL_522 rfl (lv_at hl 0 rfl) ?_
  refine lv_iload_n hx hb dL_523 rfl (lv_at hl 3 rfl) ?_
  refine lv_iconst (v := nI 4) hx hb dL_524 (by decide) ?_
  refine lv_iadd hx hb dL_525 ?_
  refine va_sld hx hb hX hbl hbA hS (hin 4 (by decide)) dL_526 ?_
  refine lw_V (k := i_X11_gets) (y := me_X11_gets) (i := 0) (ci := 10) (z := ("RivetedSisters", am_F10, 12)) (As := ([xs (x3 + nI 1).toNatClampNeg, xs (x3 + nI 2).toNatClampNeg, xs (x3 + nI 3).toNatClampNeg, xs (x3 + nI 4).toNatClampNeg].map Value.int)) (rest := []) hx hb hml hown hts hK hNW (by rw [hJl]; exact hAx) hA rfl rfl rfl rfl hc0 (hts _ (lw_lk_in _ (List.mem_of_getElem? (i := 20) rfl))) ⟨by decide, by decide⟩ ⟨Nat.le_refl _, Nat.le_refl _⟩ hp hP hS hl.1 (Nat.le_of_ble_eq_true rfl) dL_527 (fun r J1 H locs hk hlen hP hS => ?_)
  obtain ⟨-, ⟨fs1, hc1⟩, z, rfl, hm⟩ := hk
  have hJl1 : J1.length = 135 := hlen.trans hJl
  refine lv_aload_n hx hb dL_530 rfl (lv_at hl 2 rfl) ?_
  refine lv_aload_n hx hb dL_531 rfl (lv_at hl 0 rfl) ?_
  refine lv_iload_n hx hb dL_532 rfl (lv_at hl 3 rfl) ?_
  refine lv_iconst (v := nI 1) hx hb dL_533 (by decide) ?_
  refine lv_iadd hx hb dL_534 ?_
  refine va_sld hx hb hX hbl hbA hS (hin 1 (by decide)) dL_535 ?_
  refine lv_aload_n hx hb dL_536 rfl (lv_at hl 0 rfl) ?_
  refine lv_iload_n hx hb dL_537 rfl (lv_at hl 3 rfl) ?_
  refine lv_iconst (v := nI 2) hx hb dL_538 (by decide) ?_
  refine lv_iadd hx hb dL_539 ?_
  refine va_sld hx hb hX hbl hbA hS (hin 2 (by decide)) dL_540 ?_
  refine lv_aload_n hx hb dL_541 rfl (lv_at hl 0 rfl) ?_
  refine lv_iload_n hx hb dL_542 rfl (lv_at hl 3 rfl) ?_
  refine lv_iconst (v := nI 3) hx hb dL_543 (by decide) ?_
  refine lv_iadd hx hb dL_544 ?_
  refine va_sld hx hb hX hbl hbA hS (hin 3 (by decide)) dL_545 ?_
  refine lv_aload_n hx hb dL_546 rfl (lv_at hl 0 rfl) ?_
  refine lv_iload_n hx hb dL_547 rfl (lv_at hl 3 rfl) ?_
  refine lv_iconst (v := nI 4) hx hb dL_548 (by decide) ?_
  refine lv_iadd hx hb dL_549 ?_
  refine va_sld hx hb hX hbl hbA hS (hin 4 (by decide)) dL_550 ?_
  refine lw_V (k := i_X12_gets) (y := me_X12_gets) (i := 120) (ci := 11) (z := ("RivetedSistersModel", am_F11, 28)) (As := ([xs (x3 + nI 1).toNatClampNeg, xs (x3 + nI 2).toNatClampNeg, xs (x3 + nI 3).toNatClampNeg, xs (x3 + nI 4).toNatClampNeg].map Value.int)) (rest := [Value.int z]) hx hb hml hown hts hK hNW (by rw [hJl1]; exact hAx) hA rfl rfl rfl rfl hc1 (hts _ (lw_lk_in _ (List.mem_of_getElem? (i := 21) rfl))) ⟨by decide, by decide⟩ ⟨Nat.le_refl _, Nat.le_refl _⟩ hm hP hS hl.1 (Nat.le_of_ble_eq_true rfl) dL_551 (fun r J2 H locs hk hlen hP hS => ?_)
  obtain ⟨-, rfl, a2, hJ2⟩ := hk
  have hJl2 : J2.length = 135 := hlen.trans hJl1
  refine lv_icmp_eq (tgt := 1630) hx hb dL_554 (by decide) (fun _ => ?_) (fun z9 => absurd rfl z9)
  exact kk a2 J2 H locs ⟨hJ2, hJl2, hP, hS⟩
set_option maxHeartbeats 4000000 in
set_option maxRecDepth 100000 in
theorem law_c11 {p : Program} {l : Launch} {e : Env} {s : State} {m : MethodId} {below : List Frame} {meth : Method} {c : Code} {Q : State → Prop} {D : va_G} {ad : Nat → Nat} {cI cW : ClassId} {A : Nat → Prop} {b L : Nat} {xs : Nat → Int32} {x3 : Int32} {a : Ab} {J : AH} {H : Heap} {locs : List Loc} {ls : Array Slot} (C1 : LA p s m c D cI cW ad A b L xs) (hJ : LWS D cI cW ad A s a J H locs) (hl : lv_has ls 4 [(0, .ref b), (1, .ref (ad 0)), (2, .ref (ad 120)), (3, .int x3)]) (hin : ∀ d, d ≤ 6 → vp_in (x3 + nI d) L) (kk : ∀ (a2 : Ab) (J2 : AH) (H2 : Heap) (locs2 : List Loc), LWS D cI cW ad A s a2 J2 H2 locs2 → W p l e room_1 s m #[Value.ref b] below meth c H2 locs2 600000 7302250 Q (F0 m 1630 ls [])) : W p l e room_1 s m #[Value.ref b] below meth c H locs 600000 7302250 Q (F0 m 559 ls []) := by
  obtain ⟨hx, hb, hml, hown, hts, hK, hNW, hAx, hA, hX, hbl, hbA⟩ := C1
  obtain ⟨hJS, hJl, hP, hS⟩ := hJ
  obtain ⟨fs, hc0⟩ := js_c hJS
  have hp := j_pair (mk := Value.int) (xs := [xs (x3 + nI 1).toNatClampNeg, xs (x3 + nI 2).toNatClampNeg, xs (x3 + nI 3).toNatClampNeg]) (fun _ _ => rfl) pr_blow hJS
  refine lv_aload_n hx hb dL_559 rfl (lv_at hl 1 rfl) ?_
  refine lv_aload_n hx hb dL_560 rfl (lv_at hl 0 rfl) ?_
  refine lv_iload_n hx hb dL_561 rfl (lv_at hl 3 rfl) ?_
  refine lv_iconst (v := nI 1) hx hb dL_562 (by decide) ?_
  refine lv_iadd hx hb dL_563 ?_
  refine va_sld hx hb hX hbl hbA hS (hin 1 (by decide)) dL_564 ?_
  refine lv_aload_n hx hb dL_565 rfl (lv_at hl 0 rfl) ?_
  refine lv_iload_n hx hb dL_566 rfl (lv_at hl 3 rfl) ?_
  refine lv_iconst (v := nI 2) hx hb dL_567 (by decide) ?_
  refine lv_iadd hx hb dL_568 ?_
  refine va_sld hx hb hX hbl hbA hS (hin 2 (by decide)) dL_569 ?_
  refine lv_aload_n hx hb dL_570 rfl (lv_at hl 0 rfl) ?_
  refine lv_iload_n hx hb dL_571 rfl (lv_at hl 3 rfl) ?_
  refine lv_iconst (v := nI 3) hx hb dL_572 (by decide) ?_
  refine lv_iadd hx hb dL_573 ?_
  refine va_sld hx hb hX hbl hbA hS (hin 3 (by decide)) dL_574 ?_
  refine lw_V (k := i_X11_blow) (y := me_X11_blow) (i := 0) (ci := 10) (z := ("RivetedSisters", am_F10, 12)) (As := ([xs (x3 + nI 1).toNatClampNeg, xs (x3 + nI 2).toNatClampNeg, xs (x3 + nI 3).toNatClampNeg].map Value.int)) (rest := []) hx hb hml hown hts hK hNW (by rw [hJl]; exact hAx) hA rfl rfl rfl rfl hc0 (hts _ (lw_lk_in _ (List.mem_of_getElem? (i := 22) rfl))) ⟨by decide, by decide⟩ ⟨Nat.le_refl _, Nat.le_refl _⟩ hp hP hS hl.1 (Nat.le_of_ble_eq_true rfl) dL_575 (fun r J1 H locs hk hlen hP hS => ?_)
  obtain ⟨-, ⟨fs1, hc1⟩, z, rfl, hm⟩ := hk
  have hJl1 : J1.length = 135 := hlen.trans hJl
  refine lv_aload_n hx hb dL_578 rfl (lv_at hl 2 rfl) ?_
  refine lv_aload_n hx hb dL_579 rfl (lv_at hl 0 rfl) ?_
  refine lv_iload_n hx hb dL_580 rfl (lv_at hl 3 rfl) ?_
  refine lv_iconst (v := nI 1) hx hb dL_581 (by decide) ?_
  refine lv_iadd hx hb dL_582 ?_
  refine va_sld hx hb hX hbl hbA hS (hin 1 (by decide)) dL_583 ?_
  refine lv_aload_n hx hb dL_584 rfl (lv_at hl 0 rfl) ?_
  refine lv_iload_n hx hb dL_585 rfl (lv_at hl 3 rfl) ?_
  refine lv_iconst (v := nI 2) hx hb dL_586 (by decide) ?_
  refine lv_iadd hx hb dL_587 ?_
  refine va_sld hx hb hX hbl hbA hS (hin 2 (by decide)) dL_588 ?_
  refine lv_aload_n hx hb dL_589 rfl (lv_at hl 0 rfl) ?_
  refine lv_iload_n hx hb dL_590 rfl (lv_at hl 3 rfl) ?_
  refine lv_iconst (v := nI 3) hx hb dL_591 (by decide) ?_
  refine lv_iadd hx hb dL_592 ?_
  refine va_sld hx hb hX hbl hbA hS (hin 3 (by decide)) dL_593 ?_
  refine lw_V (k := i_X12_blow) (y := me_X12_blow) (i := 120) (ci := 11) (z := ("RivetedSistersModel", am_F11, 28)) (As := ([xs (x3 + nI 1).toNatClampNeg, xs (x3 + nI 2).toNatClampNeg, xs (x3 + nI 3).toNatClampNeg].map Value.int)) (rest := [Value.int z]) hx hb hml hown hts hK hNW (by rw [hJl1]; exact hAx) hA rfl rfl rfl rfl hc1 (hts _ (lw_lk_in _ (List.mem_of_getElem? (i := 23) rfl))) ⟨by decide, by decide⟩ ⟨Nat.le_refl _, Nat.le_refl _⟩ hm hP hS hl.1 (Nat.le_of_ble_eq_true rfl) dL_594 (fun r J2 H locs hk hlen hP hS => ?_)
  obtain ⟨-, rfl, a2, hJ2⟩ := hk
  have hJl2 : J2.length = 135 := hlen.trans hJl1
  refine lv_icmp_eq (tgt := 1630) hx hb dL_597 (by decide) (fun _ => ?_) (fun z9 => absurd rfl z9)
  exact kk a2 J2 H locs ⟨hJ2, hJl2, hP, hS⟩
