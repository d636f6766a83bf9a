/-! THE LAW, case by case -/
set_option maxHeartbeats 4000000 in
set_option maxRecDepth 100000 in
theorem law_c24 {p : Program} {l : Launch} {e : Env} {s : State} {m : MethodId} {below : List Frame} {meth : Method} {c : Code} {Q : State → Prop} {D : va_G} {ad : Nat → Nat} {cI cW : ClassId} {A : Nat → Prop} {b L : Nat} {xs : Nat → Int32} {x3 : Int32} {a : Ab} {J : AH} {H : Heap} {locs : List Loc} {ls : Array Slot} (C1 : LA p s m c D cI cW ad A b L xs) (hJ : LWS D cI cW ad A s a J H locs) (hl : lv_has ls 4 [(0, .ref b), (1, .ref (ad 0)), (2, .ref (ad 120)), (3, .int x3)]) (hin : ∀ d, d ≤ 6 → vp_in (x3 + nI d) L) (kk : ∀ (a2 : Ab) (J2 : AH) (H2 : Heap) (locs2 : List Loc), LWS D cI cW ad A s a2 J2 H2 locs2 → W p l e room_1 s m #[Value.ref b] below meth c H2 locs2 600000 7302250 Q (F0 m 1630 ls [])) : W p l e room_1 s m #[Value.ref b] below meth c H locs 600000 7302250 Q (F0 m 978 ls []) := by
  obtain ⟨hx, hb, hml, hown, hts, hK, hNW, hAx, hA, hX, hbl, hbA⟩ := C1
  obtain ⟨hJS, hJl, hP, hS⟩ := hJ
  obtain ⟨fs, hc0⟩ := js_c hJS
  have hp := j_pair (mk := Value.int) (xs := [xs (x3 + nI 1).toNatClampNeg, xs (x3 + nI 2).toNatClampNeg]) (fun _ _ => rfl) pr_left hJS
  refine lv_aload_n hx hb dL_978 rfl (lv_at hl 1 rfl) ?_
  refine lv_aload_n hx hb dL_979 rfl (lv_at hl 0 rfl) ?_
  refine lv_iload_n hx hb dL_980 rfl (lv_at hl 3 rfl) ?_
  refine lv_iconst (v := nI 1) hx hb dL_981 (by decide) ?_
  refine lv_iadd hx hb dL_982 ?_
  refine va_sld hx hb hX hbl hbA hS (hin 1 (by decide)) dL_983 ?_
  refine lv_aload_n hx hb dL_984 rfl (lv_at hl 0 rfl) ?_
  refine lv_iload_n hx hb dL_985 rfl (lv_at hl 3 rfl) ?_
  refine lv_iconst (v := nI 2) hx hb dL_986 (by decide) ?_
  refine lv_iadd hx hb dL_987 ?_
  refine va_sld hx hb hX hbl hbA hS (hin 2 (by decide)) dL_988 ?_
  refine lw_V (k := i_X11_left) (y := me_X11_left) (i := 0) (ci := 10) (z := ("RivetedSisters", am_F10, 12)) (As := ([xs (x3 + nI 1).toNatClampNeg, xs (x3 + nI 2).toNatClampNeg].map Value.int)) (rest := []) hx hb hml hown hts hK hNW (by rw [hJl]; exact hAx) hA rfl rfl rfl rfl hc0 (hts _ (lw_lk_in _ (List.mem_of_getElem? (i := 48) rfl))) ⟨by decide, by decide⟩ ⟨Nat.le_refl _, Nat.le_refl _⟩ hp hP hS hl.1 (Nat.le_of_ble_eq_true rfl) dL_989 (fun r J1 H locs hk hlen hP hS => ?_)
  obtain ⟨-, ⟨fs1, hc1⟩, z, rfl, hm⟩ := hk
  have hJl1 : J1.length = 135 := hlen.trans hJl
  refine lv_aload_n hx hb dL_992 rfl (lv_at hl 2 rfl) ?_
  refine lv_aload_n hx hb dL_993 rfl (lv_at hl 0 rfl) ?_
  refine lv_iload_n hx hb dL_994 rfl (lv_at hl 3 rfl) ?_
  refine lv_iconst (v := nI 1) hx hb dL_995 (by decide) ?_
  refine lv_iadd hx hb dL_996 ?_
  refine va_sld hx hb hX hbl hbA hS (hin 1 (by decide)) dL_997 ?_
  refine lv_aload_n hx hb dL_998 rfl (lv_at hl 0 rfl) ?_
  refine lv_iload_n hx hb dL_999 rfl (lv_at hl 3 rfl) ?_
  refine lv_iconst (v := nI 2) hx hb dL_1000 (by decide) ?_
  refine lv_iadd hx hb dL_1001 ?_
  refine va_sld hx hb hX hbl hbA hS (hin 2 (by decide)) dL_1002 ?_
  refine lw_V (k := i_X12_left) (y := me_X12_left) (i := 120) (ci := 11) (z := ("RivetedSistersModel", am_F11, 28)) (As := ([xs (x3 + nI 1).toNatClampNeg, xs (x3 + nI 2).toNatClampNeg].map Value.int)) (rest := [Value.int z]) hx hb hml hown hts hK hNW (by rw [hJl1]; exact hAx) hA rfl rfl rfl rfl hc1 (hts _ (lw_lk_in _ (List.mem_of_getElem? (i := 49) rfl))) ⟨by decide, by decide⟩ ⟨Nat.le_refl _, Nat.le_refl _⟩ hm hP hS hl.1 (Nat.le_of_ble_eq_true rfl) dL_1003 (fun r J2 H locs hk hlen hP hS => ?_)
  obtain ⟨-, rfl, a2, hJ2⟩ := hk
  have hJl2 : J2.length = 135 := hlen.trans hJl1
  refine lv_icmp_eq (tgt := 1630) hx hb dL_1006 (by decide) (fun _ => ?_) (fun z9 => absurd rfl z9)
  exact kk a2 J2 H locs ⟨hJ2, hJl2, hP, hS⟩
set_option maxHeartbeats 4000000 in
set_option maxRecDepth 100000 in
theorem law_c25 {p : Program} {l : Launch} {e : Env} {s : State} {m : MethodId} {below : List Frame} {meth : Method} {c : Code} {Q : State → Prop} {D : va_G} {ad : Nat → Nat} {cI cW : ClassId} {A : Nat → Prop} {b L : Nat} {xs : Nat → Int32} {x3 : Int32} {a : Ab} {J : AH} {H : Heap} {locs : List Loc} {ls : Array Slot} (C1 : LA p s m c D cI cW ad A b L xs) (hJ : LWS D cI cW ad A s a J H locs) (hl : lv_has ls 4 [(0, .ref b), (1, .ref (ad 0)), (2, .ref (ad 120)), (3, .int x3)]) (hin : ∀ d, d ≤ 6 → vp_in (x3 + nI d) L) (kk : ∀ (a2 : Ab) (J2 : AH) (H2 : Heap) (locs2 : List Loc), LWS D cI cW ad A s a2 J2 H2 locs2 → W p l e room_1 s m #[Value.ref b] below meth c H2 locs2 600000 7302250 Q (F0 m 1630 ls [])) : W p l e room_1 s m #[Value.ref b] below meth c H locs 600000 7302250 Q (F0 m 1011 ls []) := by
  obtain ⟨hx, hb, hml, hown, hts, hK, hNW, hAx, hA, hX, hbl, hbA⟩ := C1
  obtain ⟨hJS, hJl, hP, hS⟩ := hJ
  obtain ⟨fs, hc0⟩ := js_c hJS
  have hp := j_pair (mk := Value.long) (xs := [xs (x3 + nI 1).toNatClampNeg, xs (x3 + nI 2).toNatClampNeg, xs (x3 + nI 3).toNatClampNeg, xs (x3 + nI 4).toNatClampNeg, xs (x3 + nI 5).toNatClampNeg, xs (x3 + nI 6).toNatClampNeg]) (fun _ _ => rfl) pr_chance hJS
  refine lv_aload_n hx hb dL_1011 rfl (lv_at hl 1 rfl) ?_
  refine lv_aload_n hx hb dL_1012 rfl (lv_at hl 0 rfl) ?_
  refine lv_iload_n hx hb dL_1013 rfl (lv_at hl 3 rfl) ?_
  refine lv_iconst (v := nI 1) hx hb dL_1014 (by decide) ?_
  refine lv_iadd hx hb dL_1015 ?_
  refine va_sld hx hb hX hbl hbA hS (hin 1 (by decide)) dL_1016 ?_
  refine lv_aload_n hx hb dL_1017 rfl (lv_at hl 0 rfl) ?_
  refine lv_iload_n hx hb dL_1018 rfl (lv_at hl 3 rfl) ?_
  refine lv_iconst (v := nI 2) hx hb dL_1019 (by decide) ?_
  refine lv_iadd hx hb dL_1020 ?_
  refine va_sld hx hb hX hbl hbA hS (hin 2 (by decide)) dL_1021 ?_
  refine lv_aload_n hx hb dL_1022 rfl (lv_at hl 0 rfl) ?_
  refine lv_iload_n hx hb dL_1023 rfl (lv_at hl 3 rfl) ?_
  refine lv_iconst (v := nI 3) hx hb dL_1024 (by decide) ?_
  refine lv_iadd hx hb dL_1025 ?_
  refine va_sld hx hb hX hbl hbA hS (hin 3 (by decide)) dL_1026 ?_
  refine lv_aload_n hx hb dL_1027 rfl (lv_at hl 0 rfl) ?_
  refine lv_iload_n hx hb dL_1028 rfl (lv_at hl 3 rfl) ?_
  refine lv_iconst (v := nI 4) hx hb dL_1029 (by decide) ?_
  refine lv_iadd hx hb dL_1030 ?_
  refine va_sld hx hb hX hbl hbA hS (hin 4 (by decide)) dL_1031 ?_
  refine lv_aload_n hx hb dL_1032 rfl (lv_at hl 0 rfl) ?_
  refine lv_iload_n hx hb dL_1033 rfl (lv_at hl 3 rfl) ?_
  refine lv_iconst (v := nI 5) hx hb dL_1034 (by decide) ?_
  refine lv_iadd hx hb dL_1035 ?_
  refine va_sld hx hb hX hbl hbA hS (hin 5 (by decide)) dL_1036 ?_
  refine lv_aload_n hx hb dL_1037 rfl (lv_at hl 0 rfl) ?_
  refine lv_iload_n hx hb dL_1038 rfl (lv_at hl 3 rfl) ?_
  refine lv_bipush (v := nI 6) hx hb dL_1039 (by decide) ?_
  refine lv_iadd hx hb dL_1041 ?_
  refine va_sld hx hb hX hbl hbA hS (hin 6 (by decide)) dL_1042 ?_
  refine lw_V (k := i_X11_chance) (y := me_X11_chance) (i := 0) (ci := 10) (z := ("RivetedSisters", am_F10, 12)) (As := ([xs (x3 + nI 1).toNatClampNeg, xs (x3 + nI 2).toNatClampNeg, xs (x3 + nI 3).toNatClampNeg, xs (x3 + nI 4).toNatClampNeg, xs (x3 + nI 5).toNatClampNeg, xs (x3 + nI 6).toNatClampNeg].map Value.int)) (rest := []) hx hb hml hown hts hK hNW (by rw [hJl]; exact hAx) hA rfl rfl rfl rfl hc0 (hts _ (lw_lk_in _ (List.mem_of_getElem? (i := 50) rfl))) ⟨by decide, by decide⟩ ⟨Nat.le_refl _, Nat.le_refl _⟩ hp hP hS hl.1 (Nat.le_of_ble_eq_true rfl) dL_1043 (fun r J1 H locs hk hlen hP hS => ?_)
  obtain ⟨-, ⟨fs1, hc1⟩, z, rfl, hm⟩ := hk
  have hJl1 : J1.length = 135 := hlen.trans hJl
  refine lv_aload_n hx hb dL_1046 rfl (lv_at hl 2 rfl) ?_
  refine lv_aload_n hx hb dL_1047 rfl (lv_at hl 0 rfl) ?_
  refine lv_iload_n hx hb dL_1048 rfl (lv_at hl 3 rfl) ?_
  refine lv_iconst (v := nI 1) hx hb dL_1049 (by decide) ?_
  refine lv_iadd hx hb dL_1050 ?_
  refine va_sld hx hb hX hbl hbA hS (hin 1 (by decide)) dL_1051 ?_
  refine lv_aload_n hx hb dL_1052 rfl (lv_at hl 0 rfl) ?_
  refine lv_iload_n hx hb dL_1053 rfl (lv_at hl 3 rfl) ?_
  refine lv_iconst (v := nI 2) hx hb dL_1054 (by decide) ?_
  refine lv_iadd hx hb dL_1055 ?_
  refine va_sld hx hb hX hbl hbA hS (hin 2 (by decide)) dL_1056 ?_
  refine lv_aload_n hx hb dL_1057 rfl (lv_at hl 0 rfl) ?_
  refine lv_iload_n hx hb dL_1058 rfl (lv_at hl 3 rfl) ?_
  refine lv_iconst (v := nI 3) hx hb dL_1059 (by decide) ?_
  refine lv_iadd hx hb dL_1060 ?_
  refine va_sld hx hb hX hbl hbA hS (hin 3 (by decide)) dL_1061 ?_
  refine lv_aload_n hx hb dL_1062 rfl (lv_at hl 0 rfl) ?_
  refine lv_iload_n hx hb dL_1063 rfl (lv_at hl 3 rfl) ?_
  refine lv_iconst (v := nI 4) hx hb dL_1064 (by decide) ?_
  refine lv_iadd hx hb dL_1065 ?_
  refine va_sld hx hb hX hbl hbA hS (hin 4 (by decide)) dL_1066 ?_
  refine lv_aload_n hx hb dL_1067 rfl (lv_at hl 0 rfl) ?_
  refine lv_iload_n hx hb dL_1068 rfl (lv_at hl 3 rfl) ?_
  refine lv_iconst (v := nI 5) hx hb dL_1069 (by decide) ?_
  refine lv_iadd hx hb dL_1070 ?_
  refine va_sld hx hb hX hbl hbA hS (hin 5 (by decide)) dL_1071 ?_
  refine lv_aload_n hx hb dL_1072 rfl (lv_at hl 0 rfl) ?_
  refine lv_iload_n hx hb dL_1073 rfl (lv_at hl 3 rfl) ?_
  refine lv_bipush (v := nI 6) hx hb dL_1074 (by decide) ?_
  refine lv_iadd hx hb dL_1076 ?_
  refine va_sld hx hb hX hbl hbA hS (hin 6 (by decide)) dL_1077 ?_
  refine lw_V (k := i_X12_chance) (y := me_X12_chance) (i := 120) (ci := 11) (z := ("RivetedSistersModel", am_F11, 28)) (As := ([xs (x3 + nI 1).toNatClampNeg, xs (x3 + nI 2).toNatClampNeg, xs (x3 + nI 3).toNatClampNeg, xs (x3 + nI 4).toNatClampNeg, xs (x3 + nI 5).toNatClampNeg, xs (x3 + nI 6).toNatClampNeg].map Value.int)) (rest := [Value.long z]) hx hb hml hown hts hK hNW (by rw [hJl1]; exact hAx) hA rfl rfl rfl rfl hc1 (hts _ (lw_lk_in _ (List.mem_of_getElem? (i := 51) rfl))) ⟨by decide, by decide⟩ ⟨Nat.le_refl _, Nat.le_refl _⟩ hm hP hS hl.1 (Nat.le_of_ble_eq_true rfl) dL_1078 (fun r J2 H locs hk hlen hP hS => ?_)
  obtain ⟨-, rfl, a2, hJ2⟩ := hk
  have hJl2 : J2.length = 135 := hlen.trans hJl1
  refine W.lcmp hx hb dL_1081 ?_
  refine lv_if_eq (tgt := 1630) hx hb dL_1082 (by decide) (fun _ => ?_) (fun z9 => absurd (lcmp_self z) z9)
  exact kk a2 J2 H locs ⟨hJ2, hJl2, hP, hS⟩
set_option maxHeartbeats 4000000 in
set_option maxRecDepth 100000 in
theorem law_c26 {p : Program} {l : Launch} {e : Env} {s : State} {m : MethodId} {below : List Frame} {meth : Method} {c : Code} {Q : State → Prop} {D : va_G} {ad : Nat → Nat} {cI cW : ClassId} {A : Nat → Prop} {b L : Nat} {xs : Nat → Int32} {x3 : Int32} {a : Ab} {J : AH} {H : Heap} {locs : List Loc} {ls : Array Slot} (C1 : LA p s m c D cI cW ad A b L xs) (hJ : LWS D cI cW ad A s a J H locs) (hl : lv_has ls 4 [(0, .ref b), (1, .ref (ad 0)), (2, .ref (ad 120)), (3, .int x3)]) (hin : ∀ d, d ≤ 6 → vp_in (x3 + nI d) L) (kk : ∀ (a2 : Ab) (J2 : AH) (H2 : Heap) (locs2 : List Loc), LWS D cI cW ad A s a2 J2 H2 locs2 → W p l e room_1 s m #[Value.ref b] below meth c H2 locs2 600000 7302250 Q (F0 m 1630 ls [])) : W p l e room_1 s m #[Value.ref b] below meth c H locs 600000 7302250 Q (F0 m 1087 ls []) := by
  obtain ⟨hx, hb, hml, hown, hts, hK, hNW, hAx, hA, hX, hbl, hbA⟩ := C1
  obtain ⟨hJS, hJl, hP, hS⟩ := hJ
  obtain ⟨fs, hc0⟩ := js_c hJS
  have hp := j_pair (mk := Value.int) (xs := [xs (x3 + nI 1).toNatClampNeg]) (fun _ _ => rfl) pr_twins hJS
  refine lv_aload_n hx hb dL_1087 rfl (lv_at hl 1 rfl) ?_
  refine lv_aload_n hx hb dL_1088 rfl (lv_at hl 0 rfl) ?_
  refine lv_iload_n hx hb dL_1089 rfl (lv_at hl 3 rfl) ?_
  refine lv_iconst (v := nI 1) hx hb dL_1090 (by decide) ?_
  refine lv_iadd hx hb dL_1091 ?_
  refine va_sld hx hb hX hbl hbA hS (hin 1 (by decide)) dL_1092 ?_
  refine lw_V (k := i_X11_twins) (y := me_X11_twins) (i := 0) (ci := 10) (z := ("RivetedSisters", am_F10, 12)) (As := ([xs (x3 + nI 1).toNatClampNeg].map Value.int)) (rest := []) hx hb hml hown hts hK hNW (by rw [hJl]; exact hAx) hA rfl rfl rfl rfl hc0 (hts _ (lw_lk_in _ (List.mem_of_getElem? (i := 52) rfl))) ⟨by decide, by decide⟩ ⟨Nat.le_refl _, Nat.le_refl _⟩ hp hP hS hl.1 (Nat.le_of_ble_eq_true rfl) dL_1093 (fun r J1 H locs hk hlen hP hS => ?_)
  obtain ⟨-, ⟨fs1, hc1⟩, z, rfl, hm⟩ := hk
  have hJl1 : J1.length = 135 := hlen.trans hJl
  refine lv_aload_n hx hb dL_1096 rfl (lv_at hl 2 rfl) ?_
  refine lv_aload_n hx hb dL_1097 rfl (lv_at hl 0 rfl) ?_
  refine lv_iload_n hx hb dL_1098 rfl (lv_at hl 3 rfl) ?_
  refine lv_iconst (v := nI 1) hx hb dL_1099 (by decide) ?_
  refine lv_iadd hx hb dL_1100 ?_
  refine va_sld hx hb hX hbl hbA hS (hin 1 (by decide)) dL_1101 ?_
  refine lw_V (k := i_X12_twins) (y := me_X12_twins) (i := 120) (ci := 11) (z := ("RivetedSistersModel", am_F11, 28)) (As := ([xs (x3 + nI 1).toNatClampNeg].map Value.int)) (rest := [Value.int z]) hx hb hml hown hts hK hNW (by rw [hJl1]; exact hAx) hA rfl rfl rfl rfl hc1 (hts _ (lw_lk_in _ (List.mem_of_getElem? (i := 53) rfl))) ⟨by decide, by decide⟩ ⟨Nat.le_refl _, Nat.le_refl _⟩ hm hP hS hl.1 (Nat.le_of_ble_eq_true rfl) dL_1102 (fun r J2 H locs hk hlen hP hS => ?_)
  obtain ⟨-, rfl, a2, hJ2⟩ := hk
  have hJl2 : J2.length = 135 := hlen.trans hJl1
  refine lv_icmp_eq (tgt := 1630) hx hb dL_1105 (by decide) (fun _ => ?_) (fun z9 => absurd rfl z9)
  exact kk a2 J2 H locs ⟨hJ2, hJl2, hP, hS⟩
set_option maxHeartbeats 4000000 in
set_option maxRecDepth 100000 in
theorem law_c27 {p : Program} {l : Launch} {e : Env} {s : State} {m : MethodId} {below : List Frame} {meth : Method} {c : Code} {Q : State → Prop} {D : va_G} {ad : Nat → Nat} {cI cW : ClassId} {A : Nat → Prop} {b L : Nat} {xs : Nat → Int32} {x3 : Int32} {a : Ab} {J : AH} {H : Heap} {locs : List Loc} {ls : Array Slot} (C1 : LA p s m c D cI cW ad A b L xs) (hJ : LWS D cI cW ad A s a J H locs) (hl : lv_has ls 4 [(0, .ref b), (1, .ref (ad 0)), (2, .ref (ad 120)), (3, .int x3)]) (hin : ∀ d, d ≤ 6 → vp_in (x3 + nI d) L) (kk : ∀ (a2 : Ab) (J2 : AH) (H2 : Heap) (locs2 : List Loc), LWS D cI cW ad A s a2 J2 H2 locs2 → W p l e room_1 s m #[Value.ref b] below meth c H2 locs2 600000 7302250 Q (F0 m 1630 ls [])) : W p l e room_1 s m #[Value.ref b] below meth c H locs 600000 7302250 Q (F0 m 1110 ls []) := by
  obtain ⟨hx, hb, hml, hown, hts, hK, hNW, hAx, hA, hX, hbl, hbA⟩ := C1
  obtain ⟨hJS, hJl, hP, hS⟩ := hJ
  obtain ⟨fs, hc0⟩ := js_c hJS
  have hp := j_pair (mk := Value.int) (xs := [xs (x3 + nI 1).toNatClampNeg, xs (x3 + nI 2).toNatClampNeg]) (fun _ _ => rfl) pr_hum hJS
  refine lv_aload_n hx hb dL_1110 rfl (lv_at hl 1 rfl) ?_
  refine lv_aload_n hx hb dL_1111 rfl (lv_at hl 0 rfl) ?_
  refine lv_iload_n hx hb dL_1112 rfl (lv_at hl 3 rfl) ?_
  refine lv_iconst (v := nI 1) hx hb dL_1113 (by decide) ?_
  refine lv_iadd hx hb dL_1114 ?_
  refine va_sld hx hb hX hbl hbA hS (hin 1 (by decide)) dL_1115 ?_
  refine lv_aload_n hx hb dL_1116 rfl (lv_at hl 0 rfl) ?_
  refine lv_iload_n hx hb dL_1117 rfl (lv_at hl 3 rfl) ?_
  refine lv_iconst (v := nI 2) hx hb dL_1118 (by decide) ?_
  refine lv_iadd hx hb dL_1119 ?_
  refine va_sld hx hb hX hbl hbA hS (hin 2 (by decide)) dL_1120 ?_
  refine lw_V (k := i_X11_hum) (y := me_X11_hum) (i := 0) (ci := 10) (z := ("RivetedSisters", am_F10, 12)) (As := ([xs (x3 + nI 1).toNatClampNeg, xs (x3 + nI 2).toNatClampNeg].map Value.int)) (rest := []) hx hb hml hown hts hK hNW (by rw [hJl]; exact hAx) hA rfl rfl rfl rfl hc0 (hts _ (lw_lk_in _ (List.mem_of_getElem? (i := 54) rfl))) ⟨by decide, by decide⟩ ⟨Nat.le_refl _, Nat.le_refl _⟩ hp hP hS hl.1 (Nat.le_of_ble_eq_true rfl) dL_1121 (fun r J1 H locs hk hlen hP hS => ?_)
  obtain ⟨-, ⟨fs1, hc1⟩, z, rfl, hm⟩ := hk
  have hJl1 : J1.length = 135 := hlen.trans hJl
  refine lv_aload_n hx hb dL_1124 rfl (lv_at hl 2 rfl) ?_
  refine lv_aload_n hx hb dL_1125 rfl (lv_at hl 0 rfl) ?_
  refine lv_iload_n hx hb dL_1126 rfl (lv_at hl 3 rfl) ?_
  refine lv_iconst (v := nI 1) hx hb dL_1127 (by decide) ?_
  refine lv_iadd hx hb dL_1128 ?_
  refine va_sld hx hb hX hbl hbA hS (hin 1 (by decide)) dL_1129 ?_
  refine lv_aload_n hx hb dL_1130 rfl (lv_at hl 0 rfl) ?_
  refine lv_iload_n hx hb dL_1131 rfl (lv_at hl 3 rfl) ?_
  refine lv_iconst (v := nI 2) hx hb dL_1132 (by decide) ?_
  refine lv_iadd hx hb dL_1133 ?_
  refine va_sld hx hb hX hbl hbA hS (hin 2 (by decide)) dL_1134 ?_
  refine lw_V (k := i_X12_hum) (y := me_X12_hum) (i := 120) (ci := 11) (z := ("RivetedSistersModel", am_F11, 28)) (As := ([xs (x3 + nI 1).toNatClampNeg, xs (x3 + nI 2).toNatClampNeg].map Value.int)) (rest := [Value.int z]) hx hb hml hown hts hK hNW (by rw [hJl1]; exact hAx) hA rfl rfl rfl rfl hc1 (hts _ (lw_lk_in _ (List.mem_of_getElem? (i := 55) rfl))) ⟨by decide, by decide⟩ ⟨Nat.le_refl _, Nat.le_refl _⟩ hm hP hS hl.1 (Nat.le_of_ble_eq_true rfl) dL_1135 (fun r J2 H locs hk hlen hP hS => ?_)
  obtain ⟨-, rfl, a2, hJ2⟩ := hk
  have hJl2 : J2.length = 135 := hlen.trans hJl1
  refine lv_icmp_eq (tgt := 1630) hx hb dL_1138 (by decide) (fun _ => ?_) (fun z9 => absurd rfl z9)
  exact kk a2 J2 H locs ⟨hJ2, hJl2, hP, hS⟩
set_option maxHeartbeats 4000000 in
set_option maxRecDepth 100000 in
theorem law_c28 {p : Program} {l : Launch} {e : Env} {s : State} {m : MethodId} {below : List Frame} {meth : Method} {c : Code} {Q : State → Prop} {D : va_G} {ad : Nat → Nat} {cI cW : ClassId} {A : Nat → Prop} {b L : Nat} {xs : Nat → Int32} {x3 : Int32} {a : Ab} {J : AH} {H : Heap} {locs : List Loc} {ls : Array Slot} (C1 : LA p s m c D cI cW ad A b L xs) (hJ : LWS D cI cW ad A s a J H locs) (hl : lv_has ls 4 [(0, .ref b), (1, .ref (ad 0)), (2, .ref (ad 120)), (3, .int x3)]) (hin : ∀ d, d ≤ 6 → vp_in (x3 + nI d) L) (kk : ∀ (a2 : Ab) (J2 : AH) (H2 : Heap) (locs2 : List Loc), LWS D cI cW ad A s a2 J2 H2 locs2 → W p l e room_1 s m #[Value.ref b] below meth c H2 locs2 600000 7302250 Q (F0 m 1630 ls [])) : W p l e room_1 s m #[Value.ref b] below meth c H locs 600000 7302250 Q (F0 m 1143 ls []) := by
  obtain ⟨hx, hb, hml, hown, hts, hK, hNW, hAx, hA, hX, hbl, hbA⟩ := C1
  obtain ⟨hJS, hJl, hP, hS⟩ := hJ
  obtain ⟨fs, hc0⟩ := js_c hJS
  have hp := j_pair (mk := Value.int) (xs := [xs (x3 + nI 1).toNatClampNeg, xs (x3 + nI 2).toNatClampNeg]) (fun _ _ => rfl) pr_apart hJS
  refine lv_aload_n hx hb dL_1143 rfl (lv_at hl 1 rfl) ?_
  refine lv_aload_n hx hb dL_1144 rfl (lv_at hl 0 rfl) ?_
  refine lv_iload_n hx hb dL_1145 rfl (lv_at hl 3 rfl) ?_
  refine lv_iconst (v := nI 1) hx hb dL_1146 (by decide) ?_
  refine lv_iadd hx hb dL_1147 ?_
  refine va_sld hx hb hX hbl hbA hS (hin 1 (by decide)) dL_1148 ?_
  refine lv_aload_n hx hb dL_1149 rfl (lv_at hl 0 rfl) ?_
  refine lv_iload_n hx hb dL_1150 rfl (lv_at hl 3 rfl) ?_
  refine lv_iconst (v := nI 2) hx hb dL_1151 (by decide) ?_
  refine lv_iadd hx hb dL_1152 ?_
  refine va_sld hx hb hX hbl hbA hS (hin 2 (by decide)) dL_1153 ?_
  refine lw_V (k := i_X11_apart) (y := me_X11_apart) (i := 0) (ci := 10) (z := ("RivetedSisters", am_F10, 12)) (As := ([xs (x3 + nI 1).toNatClampNeg, xs (x3 + nI 2).toNatClampNeg].map Value.int)) (rest := []) hx hb hml hown hts hK hNW (by rw [hJl]; exact hAx) hA rfl rfl rfl rfl hc0 (hts _ (lw_lk_in _ (List.mem_of_getElem? (i := 56) rfl))) ⟨by decide, by decide⟩ ⟨Nat.le_refl _, Nat.le_refl _⟩ hp hP hS hl.1 (Nat.le_of_ble_eq_true rfl) dL_1154 (fun r J1 H locs hk hlen hP hS => ?_)
  obtain ⟨-, ⟨fs1, hc1⟩, z, rfl, hm⟩ := hk
  have hJl1 : J1.length = 135 := hlen.trans hJl
  refine lv_aload_n hx hb dL_1157 rfl (lv_at hl 2 rfl) ?_
  refine lv_aload_n hx hb dL_1158 rfl (lv_at hl 0 rfl) ?_
  refine lv_iload_n hx hb dL_1159 rfl (lv_at hl 3 rfl) ?_
  refine lv_iconst (v := nI 1) hx hb dL_1160 (by decide) ?_
  refine lv_iadd hx hb dL_1161 ?_
  refine va_sld hx hb hX hbl hbA hS (hin 1 (by decide)) dL_1162 ?_
  refine lv_aload_n hx hb dL_1163 rfl (lv_at hl 0 rfl) ?_
  refine lv_iload_n hx hb dL_1164 rfl (lv_at hl 3 rfl) ?_
  refine lv_iconst (v := nI 2) hx hb dL_1165 (by decide) ?_
  refine lv_iadd hx hb dL_1166 ?_
  refine va_sld hx hb hX hbl hbA hS (hin 2 (by decide)) dL_1167 ?_
  refine lw_V (k := i_X12_apart) (y := me_X12_apart) (i := 120) (ci := 11) (z := ("RivetedSistersModel", am_F11, 28)) (As := ([xs (x3 + nI 1).toNatClampNeg, xs (x3 + nI 2).toNatClampNeg].map Value.int)) (rest := [Value.int z]) hx hb hml hown hts hK hNW (by rw [hJl1]; exact hAx) hA rfl rfl rfl rfl hc1 (hts _ (lw_lk_in _ (List.mem_of_getElem? (i := 57) rfl))) ⟨by decide, by decide⟩ ⟨Nat.le_refl _, Nat.le_refl _⟩ hm hP hS hl.1 (Nat.le_of_ble_eq_true rfl) dL_1168 (fun r J2 H locs hk hlen hP hS => ?_)
  obtain ⟨-, rfl, a2, hJ2⟩ := hk
  have hJl2 : J2.length = 135 := hlen.trans hJl1
  refine lv_icmp_eq (tgt := 1630) hx hb dL_1171 (by decide) (fun _ => ?_) (fun z9 => absurd rfl z9)
  exact kk a2 J2 H locs ⟨hJ2, hJl2, hP, hS⟩
set_option maxHeartbeats 4000000 in
set_option maxRecDepth 100000 in
theorem law_c29 {p : Program} {l : Launch} {e : Env} {s : State} {m : MethodId} {below : List Frame} {meth : Method} {c : Code} {Q : State → Prop} {D : va_G} {ad : Nat → Nat} {cI cW : ClassId} {A : Nat → Prop} {b L : Nat} {xs : Nat → Int32} {x3 : Int32} {a : Ab} {J : AH} {H : Heap} {locs : List Loc} {ls : Array Slot} (C1 : LA p s m c D cI cW ad A b L xs) (hJ : LWS D cI cW ad A s a J H locs) (hl : lv_has ls 4 [(0, .ref b), (1, .ref (ad 0)), (2, .ref (ad 120)), (3, .int x3)]) (hin : ∀ d, d ≤ 6 → vp_in (x3 + nI d) L) (kk : ∀ (a2 : Ab) (J2 : AH) (H2 : Heap) (locs2 : List Loc), LWS D cI cW ad A s a2 J2 H2 locs2 → W p l e room_1 s m #[Value.ref b] below meth c H2 locs2 600000 7302250 Q (F0 m 1630 ls [])) : W p l e room_1 s m #[Value.ref b] below meth c H locs 600000 7302250 Q (F0 m 1176 ls []) := by
  obtain ⟨hx, hb, hml, hown, hts, hK, hNW, hAx, hA, hX, hbl, hbA⟩ := C1
  obtain ⟨hJS, hJl, hP, hS⟩ := hJ
  obtain ⟨fs, hc0⟩ := js_c hJS
  have hp := j_pair (mk := Value.int) (xs := []) (fun _ _ => rfl) pr_heaps hJS
  refine lv_aload_n hx hb dL_1176 rfl (lv_at hl 1 rfl) ?_
  refine lw_V (k := i_X11_heaps) (y := me_X11_heaps) (i := 0) (ci := 10) (z := ("RivetedSisters", am_F10, 12)) (As := ([].map Value.int)) (rest := []) hx hb hml hown hts hK hNW (by rw [hJl]; exact hAx) hA rfl rfl rfl rfl hc0 (hts _ (lw_lk_in _ (List.mem_of_getElem? (i := 58) rfl))) ⟨by decide, by decide⟩ ⟨Nat.le_refl _, Nat.le_refl _⟩ hp hP hS hl.1 (Nat.le_of_ble_eq_true rfl) dL_1177 (fun r J1 H locs hk hlen hP hS => ?_)
  obtain ⟨-, ⟨fs1, hc1⟩, z, rfl, hm⟩ := hk
  have hJl1 : J1.length = 135 := hlen.trans hJl
  refine lv_aload_n hx hb dL_1180 rfl (lv_at hl 2 rfl) ?_
  refine lw_V (k := i_X12_heaps) (y := me_X12_heaps) (i := 120) (ci := 11) (z := ("RivetedSistersModel", am_F11, 28)) (As := ([].map Value.int)) (rest := [Value.int z]) hx hb hml hown hts hK hNW (by rw [hJl1]; exact hAx) hA rfl rfl rfl rfl hc1 (hts _ (lw_lk_in _ (List.mem_of_getElem? (i := 59) rfl))) ⟨by decide, by decide⟩ ⟨Nat.le_refl _, Nat.le_refl _⟩ hm hP hS hl.1 (Nat.le_of_ble_eq_true rfl) dL_1181 (fun r J2 H locs hk hlen hP hS => ?_)
  obtain ⟨-, rfl, a2, hJ2⟩ := hk
  have hJl2 : J2.length = 135 := hlen.trans hJl1
  refine lv_icmp_eq (tgt := 1630) hx hb dL_1184 (by decide) (fun _ => ?_) (fun z9 => absurd rfl z9)
  exact kk a2 J2 H locs ⟨hJ2, hJl2, hP, hS⟩
