/-! THE LAW, case by case -/
set_option maxHeartbeats 4000000 in
set_option maxRecDepth 100000 in
theorem law_c42 {p : Program} {l : Launch} {e : Env} {s : State} {m : MethodId} {below : List Frame} {meth : Method} {c : Code} {Q : State → Prop} {D : va_G} {ad : Nat → Nat} {cI cW : ClassId} {A : Nat → Prop} {b L : Nat} {xs : Nat → Int32} {x3 : Int32} {a : Ab} {J : AH} {H : Heap} {locs : List Loc} {ls : Array Slot} (C1 : LA p s m c D cI cW ad A b L xs) (hJ : LWS D cI cW ad A s a J H locs) (hl : lv_has ls 4 [(0, .ref b), (1, .ref (ad 0)), (2, .ref (ad 120)), (3, .int x3)]) (hin : ∀ d, d ≤ 6 → vp_in (x3 + nI d) L) (kk : ∀ (a2 : Ab) (J2 : AH) (H2 : Heap) (locs2 : List Loc), LWS D cI cW ad A s a2 J2 H2 locs2 → W p l e room_1 s m #[Value.ref b] below meth c H2 locs2 600000 7302250 Q (F0 m 1630 ls [])) : W p l e room_1 s m #[Value.ref b] below meth c H locs 600000 7302250 Q (F0 m 1525 ls []) := by
  obtain ⟨hx, hb, hml, hown, hts, hK, hNW, hAx, hA, hX, hbl, hbA⟩ := C1
  obtain ⟨hJS, hJl, hP, hS⟩ := hJ
  obtain ⟨fs, hc0⟩ := js_c hJS
  have hp := j_pair (mk := Value.int) (xs := []) (fun _ _ => rfl) pr_clear hJS
  refine lv_aload_n hx hb dL_1525 rfl (lv_at hl 1 rfl) ?_
  refine lw_V (k := i_X11_clear) (y := me_X11_clear) (i := 0) (ci := 10) (z := ("RivetedSisters", am_F10, 12)) (As := ([].map Value.int)) (rest := []) hx hb hml hown hts hK hNW (by rw [hJl]; exact hAx) hA rfl rfl rfl rfl hc0 (hts _ (lw_lk_in _ (List.mem_of_getElem? (i := 84) rfl))) ⟨by decide, by decide⟩ ⟨Nat.le_refl _, Nat.le_refl _⟩ hp hP hS hl.1 (Nat.le_of_ble_eq_true rfl) dL_1526 (fun r J1 H locs hk hlen hP hS => ?_)
  obtain ⟨-, ⟨fs1, hc1⟩, z, rfl, hm⟩ := hk
  have hJl1 : J1.length = 135 := hlen.trans hJl
  refine lv_aload_n hx hb dL_1529 rfl (lv_at hl 2 rfl) ?_
  refine lw_V (k := i_X12_clear) (y := me_X12_clear) (i := 120) (ci := 11) (z := ("RivetedSistersModel", am_F11, 28)) (As := ([].map Value.int)) (rest := [Value.int z]) hx hb hml hown hts hK hNW (by rw [hJl1]; exact hAx) hA rfl rfl rfl rfl hc1 (hts _ (lw_lk_in _ (List.mem_of_getElem? (i := 85) rfl))) ⟨by decide, by decide⟩ ⟨Nat.le_refl _, Nat.le_refl _⟩ hm hP hS hl.1 (Nat.le_of_ble_eq_true rfl) dL_1530 (fun r J2 H locs hk hlen hP hS => ?_)
  obtain ⟨-, rfl, a2, hJ2⟩ := hk
  have hJl2 : J2.length = 135 := hlen.trans hJl1
  refine lv_icmp_eq (tgt := 1630) hx hb dL_1533 (by decide) (fun _ => ?_) (fun z9 => absurd rfl z9)
  exact kk a2 J2 H locs ⟨hJ2, hJl2, hP, hS⟩
set_option maxHeartbeats 4000000 in
set_option maxRecDepth 100000 in
theorem law_c43 {p : Program} {l : Launch} {e : Env} {s : State} {m : MethodId} {below : List Frame} {meth : Method} {c : Code} {Q : State → Prop} {D : va_G} {ad : Nat → Nat} {cI cW : ClassId} {A : Nat → Prop} {b L : Nat} {xs : Nat → Int32} {x3 : Int32} {a : Ab} {J : AH} {H : Heap} {locs : List Loc} {ls : Array Slot} (C1 : LA p s m c D cI cW ad A b L xs) (hJ : LWS D cI cW ad A s a J H locs) (hl : lv_has ls 4 [(0, .ref b), (1, .ref (ad 0)), (2, .ref (ad 120)), (3, .int x3)]) (hin : ∀ d, d ≤ 6 → vp_in (x3 + nI d) L) (kk : ∀ (a2 : Ab) (J2 : AH) (H2 : Heap) (locs2 : List Loc), LWS D cI cW ad A s a2 J2 H2 locs2 → W p l e room_1 s m #[Value.ref b] below meth c H2 locs2 600000 7302250 Q (F0 m 1630 ls [])) : W p l e room_1 s m #[Value.ref b] below meth c H locs 600000 7302250 Q (F0 m 1538 ls []) := by
  obtain ⟨hx, hb, hml, hown, hts, hK, hNW, hAx, hA, hX, hbl, hbA⟩ := C1
  obtain ⟨hJS, hJl, hP, hS⟩ := hJ
  obtain ⟨fs, hc0⟩ := js_c hJS
  have hp := j_pair (mk := Value.int) (xs := [xs (x3 + nI 1).toNatClampNeg, xs (x3 + nI 2).toNatClampNeg, xs (x3 + nI 3).toNatClampNeg]) (fun _ _ => rfl) pr_lots hJS
  refine lv_aload_n hx hb dL_1538 rfl (lv_at hl 1 rfl) ?_
  refine lv_aload_n hx hb dL_1539 rfl (lv_at hl 0 rfl) ?_
  refine lv_iload_n hx hb dL_1540 rfl (lv_at hl 3 rfl) ?_
  refine lv_iconst (v := nI 1) hx hb dL_1541 (by decide) ?_
  refine lv_iadd hx hb dL_1542 ?_
  refine va_sld hx hb hX hbl hbA hS (hin 1 (by decide)) dL_1543 ?_
  refine lv_aload_n hx hb dL_1544 rfl (lv_at hl 0 rfl) ?_
  refine lv_iload_n hx hb dL_1545 rfl (lv_at hl 3 rfl) ?_
  refine lv_iconst (v := nI 2) hx hb dL_1546 (by decide) ?_
  refine lv_iadd hx hb dL_1547 ?_
  refine va_sld hx hb hX hbl hbA hS (hin 2 (by decide)) dL_1548 ?_
  refine lv_aload_n hx hb dL_1549 rfl (lv_at hl 0 rfl) ?_
  refine lv_iload_n hx hb dL_1550 rfl (lv_at hl 3 rfl) ?_
  refine lv_iconst (v := nI 3) hx hb dL_1551 (by decide) ?_
  refine lv_iadd hx hb dL_1552 ?_
  refine va_sld hx hb hX hbl hbA hS (hin 3 (by decide)) dL_1553 ?_
  refine lw_V (k := i_X11_lots) (y := me_X11_lots) (i := 0) (ci := 10) (z := ("RivetedSisters", am_F10, 12)) (As := ([xs (x3 + nI 1).toNatClampNeg, xs (x3 + nI 2).toNatClampNeg, xs (x3 + nI 3).toNatClampNeg].map Value.int)) (rest := []) hx hb hml hown hts hK hNW (by rw [hJl]; exact hAx) hA rfl rfl rfl rfl hc0 (hts _ (lw_lk_in _ (List.mem_of_getElem? (i := 86) rfl))) ⟨by decide, by decide⟩ ⟨Nat.le_refl _, Nat.le_refl _⟩ hp hP hS hl.1 (Nat.le_of_ble_eq_true rfl) dL_1554 (fun r J1 H locs hk hlen hP hS => ?_)
  obtain ⟨-, ⟨fs1, hc1⟩, z, rfl, hm⟩ := hk
  have hJl1 : J1.length = 135 := hlen.trans hJl
  refine lv_aload_n hx hb dL_1557 rfl (lv_at hl 2 rfl) ?_
  refine lv_aload_n hx hb dL_1558 rfl (lv_at hl 0 rfl) ?_
  refine lv_iload_n hx hb dL_1559 rfl (lv_at hl 3 rfl) ?_
  refine lv_iconst (v := nI 1) hx hb dL_1560 (by decide) ?_
  refine lv_iadd hx hb dL_1561 ?_
  refine va_sld hx hb hX hbl hbA hS (hin 1 (by decide)) dL_1562 ?_
  refine lv_aload_n hx hb dL_1563 rfl (lv_at hl 0 rfl) ?_
  refine lv_iload_n hx hb dL_1564 rfl (lv_at hl 3 rfl) ?_
  refine lv_iconst (v := nI 2) hx hb dL_1565 (by decide) ?_
  refine lv_iadd hx hb dL_1566 ?_
  refine va_sld hx hb hX hbl hbA hS (hin 2 (by decide)) dL_1567 ?_
  refine lv_aload_n hx hb dL_1568 rfl (lv_at hl 0 rfl) ?_
  refine lv_iload_n hx hb dL_1569 rfl (lv_at hl 3 rfl) ?_
  refine lv_iconst (v := nI 3) hx hb dL_1570 (by decide) ?_
  refine lv_iadd hx hb dL_1571 ?_
  refine va_sld hx hb hX hbl hbA hS (hin 3 (by decide)) dL_1572 ?_
  refine lw_V (k := i_X12_lots) (y := me_X12_lots) (i := 120) (ci := 11) (z := ("RivetedSistersModel", am_F11, 28)) (As := ([xs (x3 + nI 1).toNatClampNeg, xs (x3 + nI 2).toNatClampNeg, xs (x3 + nI 3).toNatClampNeg].map Value.int)) (rest := [Value.int z]) hx hb hml hown hts hK hNW (by rw [hJl1]; exact hAx) hA rfl rfl rfl rfl hc1 (hts _ (lw_lk_in _ (List.mem_of_getElem? (i := 87) rfl))) ⟨by decide, by decide⟩ ⟨Nat.le_refl _, Nat.le_refl _⟩ hm hP hS hl.1 (Nat.le_of_ble_eq_true rfl) dL_1573 (fun r J2 H locs hk hlen hP hS => ?_)
  obtain ⟨-, rfl, a2, hJ2⟩ := hk
  have hJl2 : J2.length = 135 := hlen.trans hJl1
  refine lv_icmp_eq (tgt := 1630) hx hb dL_1576 (by decide) (fun _ => ?_) (fun z9 => absurd rfl z9)
  exact kk a2 J2 H locs ⟨hJ2, hJl2, hP, hS⟩
set_option maxHeartbeats 4000000 in
set_option maxRecDepth 100000 in
theorem law_c44 {p : Program} {l : Launch} {e : Env} {s : State} {m : MethodId} {below : List Frame} {meth : Method} {c : Code} {Q : State → Prop} {D : va_G} {ad : Nat → Nat} {cI cW : ClassId} {A : Nat → Prop} {b L : Nat} {xs : Nat → Int32} {x3 : Int32} {a : Ab} {J : AH} {H : Heap} {locs : List Loc} {ls : Array Slot} (C1 : LA p s m c D cI cW ad A b L xs) (hJ : LWS D cI cW ad A s a J H locs) (hl : lv_has ls 4 [(0, .ref b), (1, .ref (ad 0)), (2, .ref (ad 120)), (3, .int x3)]) (hin : ∀ d, d ≤ 6 → vp_in (x3 + nI d) L) (kk : ∀ (a2 : Ab) (J2 : AH) (H2 : Heap) (locs2 : List Loc), LWS D cI cW ad A s a2 J2 H2 locs2 → W p l e room_1 s m #[Value.ref b] below meth c H2 locs2 600000 7302250 Q (F0 m 1630 ls [])) : W p l e room_1 s m #[Value.ref b] below meth c H locs 600000 7302250 Q (F0 m 1581 ls []) := by
  obtain ⟨hx, hb, hml, hown, hts, hK, hNW, hAx, hA, hX, hbl, hbA⟩ := C1
  obtain ⟨hJS, hJl, hP, hS⟩ := hJ
  obtain ⟨fs, hc0⟩ := js_c hJS
  have hp := j_pair (mk := Value.int) (xs := []) (fun _ _ => rfl) pr_image hJS
  refine lv_aload_n hx hb dL_1581 rfl (lv_at hl 1 rfl) ?_
  refine lw_V (k := i_X11_image) (y := me_X11_image) (i := 0) (ci := 10) (z := ("RivetedSisters", am_F10, 12)) (As := ([].map Value.int)) (rest := []) hx hb hml hown hts hK hNW (by rw [hJl]; exact hAx) hA rfl rfl rfl rfl hc0 (hts _ (lw_lk_in _ (List.mem_of_getElem? (i := 88) rfl))) ⟨by decide, by decide⟩ ⟨Nat.le_refl _, Nat.le_refl _⟩ hp hP hS hl.1 (Nat.le_of_ble_eq_true rfl) dL_1582 (fun r J1 H locs hk hlen hP hS => ?_)
  obtain ⟨-, ⟨fs1, hc1⟩, z, rfl, hm⟩ := hk
  have hJl1 : J1.length = 135 := hlen.trans hJl
  refine lv_aload_n hx hb dL_1585 rfl (lv_at hl 2 rfl) ?_
  refine lw_V (k := i_X12_image) (y := me_X12_image) (i := 120) (ci := 11) (z := ("RivetedSistersModel", am_F11, 28)) (As := ([].map Value.int)) (rest := [Value.int z]) hx hb hml hown hts hK hNW (by rw [hJl1]; exact hAx) hA rfl rfl rfl rfl hc1 (hts _ (lw_lk_in _ (List.mem_of_getElem? (i := 89) rfl))) ⟨by decide, by decide⟩ ⟨Nat.le_refl _, Nat.le_refl _⟩ hm hP hS hl.1 (Nat.le_of_ble_eq_true rfl) dL_1586 (fun r J2 H locs hk hlen hP hS => ?_)
  obtain ⟨-, rfl, a2, hJ2⟩ := hk
  have hJl2 : J2.length = 135 := hlen.trans hJl1
  refine lv_icmp_eq (tgt := 1630) hx hb dL_1589 (by decide) (fun _ => ?_) (fun z9 => absurd rfl z9)
  exact kk a2 J2 H locs ⟨hJ2, hJl2, hP, hS⟩
set_option maxHeartbeats 4000000 in
set_option maxRecDepth 100000 in
theorem law_c45 {p : Program} {l : Launch} {e : Env} {s : State} {m : MethodId} {below : List Frame} {meth : Method} {c : Code} {Q : State → Prop} {D : va_G} {ad : Nat → Nat} {cI cW : ClassId} {A : Nat → Prop} {b L : Nat} {xs : Nat → Int32} {x3 : Int32} {a : Ab} {J : AH} {H : Heap} {locs : List Loc} {ls : Array Slot} (C1 : LA p s m c D cI cW ad A b L xs) (hJ : LWS D cI cW ad A s a J H locs) (hl : lv_has ls 4 [(0, .ref b), (1, .ref (ad 0)), (2, .ref (ad 120)), (3, .int x3)]) (hin : ∀ d, d ≤ 6 → vp_in (x3 + nI d) L) (kk : ∀ (a2 : Ab) (J2 : AH) (H2 : Heap) (locs2 : List Loc), LWS D cI cW ad A s a2 J2 H2 locs2 → W p l e room_1 s m #[Value.ref b] below meth c H2 locs2 600000 7302250 Q (F0 m 1630 ls [])) : W p l e room_1 s m #[Value.ref b] below meth c H locs 600000 7302250 Q (F0 m 1594 ls []) := by
  obtain ⟨hx, hb, hml, hown, hts, hK, hNW, hAx, hA, hX, hbl, hbA⟩ := C1
  obtain ⟨hJS, hJl, hP, hS⟩ := hJ
  obtain ⟨fs, hc0⟩ := js_c hJS
  have hp := j_pair (mk := Value.int) (xs := []) (fun _ _ => rfl) pr_restore hJS
  refine lv_aload_n hx hb dL_1594 rfl (lv_at hl 1 rfl) ?_
  refine lw_V (k := i_X11_restore) (y := me_X11_restore) (i := 0) (ci := 10) (z := ("RivetedSisters", am_F10, 12)) (As := ([].map Value.int)) (rest := []) hx hb hml hown hts hK hNW (by rw [hJl]; exact hAx) hA rfl rfl rfl rfl hc0 (hts _ (lw_lk_in _ (List.mem_of_getElem? (i := 90) rfl))) ⟨by decide, by decide⟩ ⟨Nat.le_refl _, Nat.le_refl _⟩ hp hP hS hl.1 (Nat.le_of_ble_eq_true rfl) dL_1595 (fun r J1 H locs hk hlen hP hS => ?_)
  obtain ⟨-, ⟨fs1, hc1⟩, z, rfl, hm⟩ := hk
  have hJl1 : J1.length = 135 := hlen.trans hJl
  refine lv_aload_n hx hb dL_1598 rfl (lv_at hl 2 rfl) ?_
  refine lw_V (k := i_X12_restore) (y := me_X12_restore) (i := 120) (ci := 11) (z := ("RivetedSistersModel", am_F11, 28)) (As := ([].map Value.int)) (rest := [Value.int z]) hx hb hml hown hts hK hNW (by rw [hJl1]; exact hAx) hA rfl rfl rfl rfl hc1 (hts _ (lw_lk_in _ (List.mem_of_getElem? (i := 91) rfl))) ⟨by decide, by decide⟩ ⟨Nat.le_refl _, Nat.le_refl _⟩ hm hP hS hl.1 (Nat.le_of_ble_eq_true rfl) dL_1599 (fun r J2 H locs hk hlen hP hS => ?_)
  obtain ⟨-, rfl, a2, hJ2⟩ := hk
  have hJl2 : J2.length = 135 := hlen.trans hJl1
  refine lv_icmp_eq (tgt := 1630) hx hb dL_1602 (by decide) (fun _ => ?_) (fun z9 => absurd rfl z9)
  exact kk a2 J2 H locs ⟨hJ2, hJl2, hP, hS⟩
set_option maxHeartbeats 4000000 in
set_option maxRecDepth 100000 in
theorem law_c46 {p : Program} {l : Launch} {e : Env} {s : State} {m : MethodId} {below : List Frame} {meth : Method} {c : Code} {Q : State → Prop} {D : va_G} {ad : Nat → Nat} {cI cW : ClassId} {A : Nat → Prop} {b L : Nat} {xs : Nat → Int32} {x3 : Int32} {a : Ab} {J : AH} {H : Heap} {locs : List Loc} {ls : Array Slot} (C1 : LA p s m c D cI cW ad A b L xs) (hJ : LWS D cI cW ad A s a J H locs) (hl : lv_has ls 4 [(0, .ref b), (1, .ref (ad 0)), (2, .ref (ad 120)), (3, .int x3)]) (hin : ∀ d, d ≤ 6 → vp_in (x3 + nI d) L) (kk : ∀ (a2 : Ab) (J2 : AH) (H2 : Heap) (locs2 : List Loc), LWS D cI cW ad A s a2 J2 H2 locs2 → W p l e room_1 s m #[Value.ref b] below meth c H2 locs2 600000 7302250 Q (F0 m 1630 ls [])) : W p l e room_1 s m #[Value.ref b] below meth c H locs 600000 7302250 Q (F0 m 1607 ls []) := by
  obtain ⟨hx, hb, hml, hown, hts, hK, hNW, hAx, hA, hX, hbl, hbA⟩ := C1
  obtain ⟨hJS, hJl, hP, hS⟩ := hJ
  obtain ⟨fs, hc0⟩ := js_c hJS
  have hp := j_pair (mk := Value.int) (xs := [xs (x3 + nI 1).toNatClampNeg]) (fun _ _ => rfl) pr_count hJS
  refine lv_aload_n hx hb dL_1607 rfl (lv_at hl 1 rfl) ?_
  refine lv_aload_n hx hb dL_1608 rfl (lv_at hl 0 rfl) ?_
  refine lv_iload_n hx hb dL_1609 rfl (lv_at hl 3 rfl) ?_
  refine lv_iconst (v := nI 1) hx hb dL_1610 (by decide) ?_
  refine lv_iadd hx hb dL_1611 ?_
  refine va_sld hx hb hX hbl hbA hS (hin 1 (by decide)) dL_1612 ?_
  refine lw_V (k := i_X11_count) (y := me_X11_count) (i := 0) (ci := 10) (z := ("RivetedSisters", am_F10, 12)) (As := ([xs (x3 + nI 1).toNatClampNeg].map Value.int)) (rest := []) hx hb hml hown hts hK hNW (by rw [hJl]; exact hAx) hA rfl rfl rfl rfl hc0 (hts _ (lw_lk_in _ (List.mem_of_getElem? (i := 92) rfl))) ⟨by decide, by decide⟩ ⟨Nat.le_refl _, Nat.le_refl _⟩ hp hP hS hl.1 (Nat.le_of_ble_eq_true rfl) dL_1613 (fun r J1 H locs hk hlen hP hS => ?_)
  obtain ⟨-, ⟨fs1, hc1⟩, z, rfl, hm⟩ := hk
  have hJl1 : J1.length = 135 := hlen.trans hJl
  refine lv_aload_n hx hb dL_1616 rfl (lv_at hl 2 rfl) ?_
  refine lv_aload_n hx hb dL_1617 rfl (lv_at hl 0 rfl) ?_
  refine lv_iload_n hx hb dL_1618 rfl (lv_at hl 3 rfl) ?_
  refine lv_iconst (v := nI 1) hx hb dL_1619 (by decide) ?_
  refine lv_iadd hx hb dL_1620 ?_
  refine va_sld hx hb hX hbl hbA hS (hin 1 (by decide)) dL_1621 ?_
  refine lw_V (k := i_X12_count) (y := me_X12_count) (i := 120) (ci := 11) (z := ("RivetedSistersModel", am_F11, 28)) (As := ([xs (x3 + nI 1).toNatClampNeg].map Value.int)) (rest := [Value.int z]) hx hb hml hown hts hK hNW (by rw [hJl1]; exact hAx) hA rfl rfl rfl rfl hc1 (hts _ (lw_lk_in _ (List.mem_of_getElem? (i := 93) rfl))) ⟨by decide, by decide⟩ ⟨Nat.le_refl _, Nat.le_refl _⟩ hm hP hS hl.1 (Nat.le_of_ble_eq_true rfl) dL_1622 (fun r J2 H locs hk hlen hP hS => ?_)
  obtain ⟨-, rfl, a2, hJ2⟩ := hk
  have hJl2 : J2.length = 135 := hlen.trans hJl1
  refine lv_icmp_eq (tgt := 1630) hx hb dL_1625 (by decide) (fun _ => ?_) (fun z9 => absurd rfl z9)
  exact kk a2 J2 H locs ⟨hJ2, hJl2, hP, hS⟩
