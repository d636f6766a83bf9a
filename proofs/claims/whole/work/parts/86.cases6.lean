/-! THE LAW, case by case -/
set_option maxHeartbeats 4000000 in
set_option maxRecDepth 100000 in
theorem law_c30 {p : Program} {l : Launch} {e : Env} {s : State} {m : MethodId} {below : List Frame} {meth : Method} {c : Code} {Q : State → Prop} {D : va_G} {ad : Nat → Nat} {cI cW : ClassId} {A : Nat → Prop} {b L : Nat} {xs : Nat → Int32} {x3 : Int32} {a : Ab} {J : AH} {H : Heap} {locs : List Loc} {ls : Array Slot} (C1 : LA p s m c D cI cW ad A b L xs) (hJ : LWS D cI cW ad A s a J H locs) (hl : lv_has ls 4 [(0, .ref b), (1, .ref (ad 0)), (2, .ref (ad 120)), (3, .int x3)]) (hin : ∀ d, d ≤ 6 → vp_in (x3 + nI d) L) (kk : ∀ (a2 : Ab) (J2 : AH) (H2 : Heap) (locs2 : List Loc), LWS D cI cW ad A s a2 J2 H2 locs2 → W p l e room_1 s m #[Value.ref b] below meth c H2 locs2 600000 7302250 Q (F0 m 1630 ls [])) : W p l e room_1 s m #[Value.ref b] below meth c H locs 600000 7302250 Q (F0 m 1189 ls []) := by
  obtain ⟨hx, hb, hml, hown, hts, hK, hNW, hAx, hA, hX, hbl, hbA⟩ := C1
  obtain ⟨hJS, hJl, hP, hS⟩ := hJ
  obtain ⟨fs, hc0⟩ := js_c hJS
  have hp := j_pair (mk := Value.int) (xs := [xs (x3 + nI 1).toNatClampNeg, xs (x3 + nI 2).toNatClampNeg]) (fun _ _ => rfl) pr_codes hJS
  refine lv_aload_n hx hb dL_1189 rfl (lv_at hl 1 rfl) ?_
  refine lv_aload_n hx hb dL_1190 rfl (lv_at hl 0 rfl) ?_
  refine lv_iload_n hx hb dL_1191 rfl (lv_at hl 3 rfl) ?_
  refine lv_iconst (v := nI 1) hx hb dL_1192 (by decide) ?_
  refine lv_iadd hx hb dL_1193 ?_
  refine va_sld hx hb hX hbl hbA hS (hin 1 (by decide)) dL_1194 ?_
  refine lv_aload_n hx hb dL_1195 rfl (lv_at hl 0 rfl) ?_
  refine lv_iload_n hx hb dL_1196 rfl (lv_at hl 3 rfl) ?_
  refine lv_iconst (v := nI 2) hx hb dL_1197 (by decide) ?_
  refine lv_iadd hx hb dL_1198 ?_
  refine va_sld hx hb hX hbl hbA hS (hin 2 (by decide)) dL_1199 ?_
  refine lw_V (k := i_X11_codes) (y := me_X11_codes) (i := 0) (ci := 10) (z := ("RivetedSisters", am_F10, 12)) (As := ([xs (x3 + nI 1).toNatClampNeg, xs (x3 + nI 2).toNatClampNeg].map Value.int)) (rest := []) hx hb hml hown hts hK hNW (by rw [hJl]; exact hAx) hA rfl rfl rfl rfl hc0 (hts _ (lw_lk_in _ (List.mem_of_getElem? (i := 60) rfl))) ⟨by decide, by decide⟩ ⟨Nat.le_refl _, Nat.le_refl _⟩ hp hP hS hl.1 (Nat.le_of_ble_eq_true rfl) dL_1200 (fun r J1 H locs hk hlen hP hS => ?_)
  obtain ⟨-, ⟨fs1, hc1⟩, z, rfl, hm⟩ := hk
  have hJl1 : J1.length = 135 := hlen.trans hJl
  refine lv_aload_n hx hb dL_1203 rfl (lv_at hl 2 rfl) ?_
  refine lv_aload_n hx hb dL_1204 rfl (lv_at hl 0 rfl) ?_
  refine lv_iload_n hx hb dL_1205 rfl (lv_at hl 3 rfl) ?_
  refine lv_iconst (v := nI 1) hx hb dL_1206 (by decide) ?_
  refine lv_iadd hx hb dL_1207 ?_
  refine va_sld hx hb hX hbl hbA hS (hin 1 (by decide)) dL_1208 ?_
  refine lv_aload_n hx hb dL_1209 rfl (lv_at hl 0 rfl) ?_
  refine lv_iload_n hx hb dL_1210 rfl (lv_at hl 3 rfl) ?_
  refine lv_iconst (v := nI 2) hx hb dL_1211 (by decide) ?_
  refine lv_iadd hx hb dL_1212 ?_
  refine va_sld hx hb hX hbl hbA hS (hin 2 (by decide)) dL_1213 ?_
  refine lw_V (k := i_X12_codes) (y := me_X12_codes) (i := 120) (ci := 11) (z := ("RivetedSistersModel", am_F11, 28)) (As := ([xs (x3 + nI 1).toNatClampNeg, xs (x3 + nI 2).toNatClampNeg].map Value.int)) (rest := [Value.int z]) hx hb hml hown hts hK hNW (by rw [hJl1]; exact hAx) hA rfl rfl rfl rfl hc1 (hts _ (lw_lk_in _ (List.mem_of_getElem? (i := 61) rfl))) ⟨by decide, by decide⟩ ⟨Nat.le_refl _, Nat.le_refl _⟩ hm hP hS hl.1 (Nat.le_of_ble_eq_true rfl) dL_1214 (fun r J2 H locs hk hlen hP hS => ?_)
  obtain ⟨-, rfl, a2, hJ2⟩ := hk
  have hJl2 : J2.length = 135 := hlen.trans hJl1
  refine lv_icmp_eq (tgt := 1630) hx hb dL_1217 (by decide) (fun _ => ?_) (fun z9 => absurd rfl z9)
  exact kk a2 J2 H locs ⟨hJ2, hJl2, hP, hS⟩
set_option maxHeartbeats 4000000 in
set_option maxRecDepth 100000 in
theorem law_c31 {p : Program} {l : Launch} {e : Env} {s : State} {m : MethodId} {below : List Frame} {meth : Method} {c : Code} {Q : State → Prop} {D : va_G} {ad : Nat → Nat} {cI cW : ClassId} {A : Nat → Prop} {b L : Nat} {xs : Nat → Int32} {x3 : Int32} {a : Ab} {J : AH} {H : Heap} {locs : List Loc} {ls : Array Slot} (C1 : LA p s m c D cI cW ad A b L xs) (hJ : LWS D cI cW ad A s a J H locs) (hl : lv_has ls 4 [(0, .ref b), (1, .ref (ad 0)), (2, .ref (ad 120)), (3, .int x3)]) (hin : ∀ d, d ≤ 6 → vp_in (x3 + nI d) L) (kk : ∀ (a2 : Ab) (J2 : AH) (H2 : Heap) (locs2 : List Loc), LWS D cI cW ad A s a2 J2 H2 locs2 → W p l e room_1 s m #[Value.ref b] below meth c H2 locs2 600000 7302250 Q (F0 m 1630 ls [])) : W p l e room_1 s m #[Value.ref b] below meth c H locs 600000 7302250 Q (F0 m 1222 ls []) := by
  obtain ⟨hx, hb, hml, hown, hts, hK, hNW, hAx, hA, hX, hbl, hbA⟩ := C1
  obtain ⟨hJS, hJl, hP, hS⟩ := hJ
  obtain ⟨fs, hc0⟩ := js_c hJS
  have hp := j_pair (mk := Value.int) (xs := [xs (x3 + nI 1).toNatClampNeg, xs (x3 + nI 2).toNatClampNeg, xs (x3 + nI 3).toNatClampNeg]) (fun _ _ => rfl) pr_secret hJS
  refine lv_aload_n hx hb dL_1222 rfl (lv_at hl 1 rfl) ?_
  refine lv_aload_n hx hb dL_1223 rfl (lv_at hl 0 rfl) ?_
  refine lv_iload_n hx hb dL_1224 rfl (lv_at hl 3 rfl) ?_
  refine lv_iconst (v := nI 1) hx hb dL_1225 (by decide) ?_
  refine lv_iadd hx hb dL_1226 ?_
  refine va_sld hx hb hX hbl hbA hS (hin 1 (by decide)) dL_1227 ?_
  refine lv_aload_n hx hb dL_1228 rfl (lv_at hl 0 rfl) ?_
  refine lv_iload_n hx hb dL_1229 rfl (lv_at hl 3 rfl) ?_
  refine lv_iconst (v := nI 2) hx hb dL_1230 (by decide) ?_
  refine lv_iadd hx hb dL_1231 ?_
  refine va_sld hx hb hX hbl hbA hS (hin 2 (by decide)) dL_1232 ?_
  refine lv_aload_n hx hb dL_1233 rfl (lv_at hl 0 rfl) ?_
  refine lv_iload_n hx hb dL_1234 rfl (lv_at hl 3 rfl) ?_
  refine lv_iconst (v := nI 3) hx hb dL_1235 (by decide) ?_
  refine lv_iadd hx hb dL_1236 ?_
  refine va_sld hx hb hX hbl hbA hS (hin 3 (by decide)) dL_1237 ?_
  refine lw_V (k := i_X11_secret) (y := me_X11_secret) (i := 0) (ci := 10) (z := ("RivetedSisters", am_F10, 12)) (As := ([xs (x3 + nI 1).toNatClampNeg, xs (x3 + nI 2).toNatClampNeg, xs (x3 + nI 3).toNatClampNeg].map Value.int)) (rest := []) hx hb hml hown hts hK hNW (by rw [hJl]; exact hAx) hA rfl rfl rfl rfl hc0 (hts _ (lw_lk_in _ (List.mem_of_getElem? (i := 62) rfl))) ⟨by decide, by decide⟩ ⟨Nat.le_refl _, Nat.le_refl _⟩ hp hP hS hl.1 (Nat.le_of_ble_eq_true rfl) dL_1238 (fun r J1 H locs hk hlen hP hS => ?_)
  obtain ⟨-, ⟨fs1, hc1⟩, z, rfl, hm⟩ := hk
  have hJl1 : J1.length = 135 := hlen.trans hJl
  refine lv_aload_n hx hb dL_1241 rfl (lv_at hl 2 rfl) ?_
  refine lv_aload_n hx hb dL_1242 rfl (lv_at hl 0 rfl) ?_
  refine lv_iload_n hx hb dL_1243 rfl (lv_at hl 3 rfl) ?_
  refine lv_iconst (v := nI 1) hx hb dL_1244 (by decide) ?_
  refine lv_iadd hx hb dL_1245 ?_
  refine va_sld hx hb hX hbl hbA hS (hin 1 (by decide)) dL_1246 ?_
  refine lv_aload_n hx hb dL_1247 rfl (lv_at hl 0 rfl) ?_
  refine lv_iload_n hx hb dL_1248 rfl (lv_at hl 3 rfl) ?_
  refine lv_iconst (v := nI 2) hx hb dL_1249 (by decide) ?_
  refine lv_iadd hx hb dL_1250 ?_
  refine va_sld hx hb hX hbl hbA hS (hin 2 (by decide)) dL_1251 ?_
  refine lv_aload_n hx hb dL_1252 rfl (lv_at hl 0 rfl) ?_
  refine lv_iload_n hx hb dL_1253 rfl (lv_at hl 3 rfl) ?_
  refine lv_iconst (v := nI 3) hx hb dL_1254 (by decide) ?_
  refine lv_iadd hx hb dL_1255 ?_
  refine va_sld hx hb hX hbl hbA hS (hin 3 (by decide)) dL_1256 ?_
  refine lw_V (k := i_X12_secret) (y := me_X12_secret) (i := 120) (ci := 11) (z := ("RivetedSistersModel", am_F11, 28)) (As := ([xs (x3 + nI 1).toNatClampNeg, xs (x3 + nI 2).toNatClampNeg, xs (x3 + nI 3).toNatClampNeg].map Value.int)) (rest := [Value.int z]) hx hb hml hown hts hK hNW (by rw [hJl1]; exact hAx) hA rfl rfl rfl rfl hc1 (hts _ (lw_lk_in _ (List.mem_of_getElem? (i := 63) rfl))) ⟨by decide, by decide⟩ ⟨Nat.le_refl _, Nat.le_refl _⟩ hm hP hS hl.1 (Nat.le_of_ble_eq_true rfl) dL_1257 (fun r J2 H locs hk hlen hP hS => ?_)
  obtain ⟨-, rfl, a2, hJ2⟩ := hk
  have hJl2 : J2.length = 135 := hlen.trans hJl1
  refine lv_icmp_eq (tgt := 1630) hx hb dL_1260 (by decide) (fun _ => ?_) (fun z9 => absurd rfl z9)
  exact kk a2 J2 H locs ⟨hJ2, hJl2, hP, hS⟩
set_option maxHeartbeats 4000000 in
set_option maxRecDepth 100000 in
theorem law_c32 {p : Program} {l : Launch} {e : Env} {s : State} {m : MethodId} {below : List Frame} {meth : Method} {c : Code} {Q : State → Prop} {D : va_G} {ad : Nat → Nat} {cI cW : ClassId} {A : Nat → Prop} {b L : Nat} {xs : Nat → Int32} {x3 : Int32} {a : Ab} {J : AH} {H : Heap} {locs : List Loc} {ls : Array Slot} (C1 : LA p s m c D cI cW ad A b L xs) (hJ : LWS D cI cW ad A s a J H locs) (hl : lv_has ls 4 [(0, .ref b), (1, .ref (ad 0)), (2, .ref (ad 120)), (3, .int x3)]) (hin : ∀ d, d ≤ 6 → vp_in (x3 + nI d) L) (kk : ∀ (a2 : Ab) (J2 : AH) (H2 : Heap) (locs2 : List Loc), LWS D cI cW ad A s a2 J2 H2 locs2 → W p l e room_1 s m #[Value.ref b] below meth c H2 locs2 600000 7302250 Q (F0 m 1630 ls [])) : W p l e room_1 s m #[Value.ref b] below meth c H locs 600000 7302250 Q (F0 m 1265 ls []) := by
  obtain ⟨hx, hb, hml, hown, hts, hK, hNW, hAx, hA, hX, hbl, hbA⟩ := C1
  obtain ⟨hJS, hJl, hP, hS⟩ := hJ
  obtain ⟨fs, hc0⟩ := js_c hJS
  have hp := j_pair (mk := Value.int) (xs := [xs (x3 + nI 1).toNatClampNeg]) (fun _ _ => rfl) pr_tough hJS
  refine lv_aload_n hx hb dL_1265 rfl (lv_at hl 1 rfl) ?_
  refine lv_aload_n hx hb dL_1266 rfl (lv_at hl 0 rfl) ?_
  refine lv_iload_n hx hb dL_1267 rfl (lv_at hl 3 rfl) ?_
  refine lv_iconst (v := nI 1) hx hb dL_1268 (by decide) ?_
  refine lv_iadd hx hb dL_1269 ?_
  refine va_sld hx hb hX hbl hbA hS (hin 1 (by decide)) dL_1270 ?_
  refine lw_V (k := i_X11_tough) (y := me_X11_tough) (i := 0) (ci := 10) (z := ("RivetedSisters", am_F10, 12)) (As := ([xs (x3 + nI 1).toNatClampNeg].map Value.int)) (rest := []) hx hb hml hown hts hK hNW (by rw [hJl]; exact hAx) hA rfl rfl rfl rfl hc0 (hts _ (lw_lk_in _ (List.mem_of_getElem? (i := 64) rfl))) ⟨by decide, by decide⟩ ⟨Nat.le_refl _, Nat.le_refl _⟩ hp hP hS hl.1 (Nat.le_of_ble_eq_true rfl) dL_1271 (fun r J1 H locs hk hlen hP hS => ?_)
  obtain ⟨-, ⟨fs1, hc1⟩, z, rfl, hm⟩ := hk
  have hJl1 : J1.length = 135 := hlen.trans hJl
  refine lv_aload_n hx hb dL_1274 rfl (lv_at hl 2 rfl) ?_
  refine lv_aload_n hx hb dL_1275 rfl (lv_at hl 0 rfl) ?_
  refine lv_iload_n hx hb dL_1276 rfl (lv_at hl 3 rfl) ?_
  refine lv_iconst (v := nI 1) hx hb dL_1277 (by decide) ?_
  refine lv_iadd hx hb dL_1278 ?_
  refine va_sld hx hb hX hbl hbA hS (hin 1 (by decide)) dL_1279 ?_
  refine lw_V (k := i_X12_tough) (y := me_X12_tough) (i := 120) (ci := 11) (z := ("RivetedSistersModel", am_F11, 28)) (As := ([xs (x3 + nI 1).toNatClampNeg].map Value.int)) (rest := [Value.int z]) hx hb hml hown hts hK hNW (by rw [hJl1]; exact hAx) hA rfl rfl rfl rfl hc1 (hts _ (lw_lk_in _ (List.mem_of_getElem? (i := 65) rfl))) ⟨by decide, by decide⟩ ⟨Nat.le_refl _, Nat.le_refl _⟩ hm hP hS hl.1 (Nat.le_of_ble_eq_true rfl) dL_1280 (fun r J2 H locs hk hlen hP hS => ?_)
  obtain ⟨-, rfl, a2, hJ2⟩ := hk
  have hJl2 : J2.length = 135 := hlen.trans hJl1
  refine lv_icmp_eq (tgt := 1630) hx hb dL_1283 (by decide) (fun _ => ?_) (fun z9 => absurd rfl z9)
  exact kk a2 J2 H locs ⟨hJ2, hJl2, hP, hS⟩
set_option maxHeartbeats 4000000 in
set_option maxRecDepth 100000 in
theorem law_c33 {p : Program} {l : Launch} {e : Env} {s : State} {m : MethodId} {below : List Frame} {meth : Method} {c : Code} {Q : State → Prop} {D : va_G} {ad : Nat → Nat} {cI cW : ClassId} {A : Nat → Prop} {b L : Nat} {xs : Nat → Int32} {x3 : Int32} {a : Ab} {J : AH} {H : Heap} {locs : List Loc} {ls : Array Slot} (C1 : LA p s m c D cI cW ad A b L xs) (hJ : LWS D cI cW ad A s a J H locs) (hl : lv_has ls 4 [(0, .ref b), (1, .ref (ad 0)), (2, .ref (ad 120)), (3, .int x3)]) (hin : ∀ d, d ≤ 6 → vp_in (x3 + nI d) L) (kk : ∀ (a2 : Ab) (J2 : AH) (H2 : Heap) (locs2 : List Loc), LWS D cI cW ad A s a2 J2 H2 locs2 → W p l e room_1 s m #[Value.ref b] below meth c H2 locs2 600000 7302250 Q (F0 m 1630 ls [])) : W p l e room_1 s m #[Value.ref b] below meth c H locs 600000 7302250 Q (F0 m 1288 ls []) := by
  obtain ⟨hx, hb, hml, hown, hts, hK, hNW, hAx, hA, hX, hbl, hbA⟩ := C1
  obtain ⟨hJS, hJl, hP, hS⟩ := hJ
  obtain ⟨fs, hc0⟩ := js_c hJS
  have hp := j_pair (mk := Value.int) (xs := [xs (x3 + nI 1).toNatClampNeg, xs (x3 + nI 2).toNatClampNeg]) (fun _ _ => rfl) pr_centre hJS
  refine lv_aload_n hx hb dL_1288 rfl (lv_at hl 1 rfl) ?_
  refine lv_aload_n hx hb dL_1289 rfl (lv_at hl 0 rfl) ?_
  refine lv_iload_n hx hb dL_1290 rfl (lv_at hl 3 rfl) ?_
  refine lv_iconst (v := nI 1) hx hb dL_1291 (by decide) ?_
  refine lv_iadd hx hb dL_1292 ?_
  refine va_sld hx hb hX hbl hbA hS (hin 1 (by decide)) dL_1293 ?_
  refine lv_aload_n hx hb dL_1294 rfl (lv_at hl 0 rfl) ?_
  refine lv_iload_n hx hb dL_1295 rfl (lv_at hl 3 rfl) ?_
  refine lv_iconst (v := nI 2) hx hb dL_1296 (by decide) ?_
  refine lv_iadd hx hb dL_1297 ?_
  refine va_sld hx hb hX hbl hbA hS (hin 2 (by decide)) dL_1298 ?_
  refine lw_V (k := i_X11_centre) (y := me_X11_centre) (i := 0) (ci := 10) (z := ("RivetedSisters", am_F10, 12)) (As := ([xs (x3 + nI 1).toNatClampNeg, xs (x3 + nI 2).toNatClampNeg].map Value.int)) (rest := []) hx hb hml hown hts hK hNW (by rw [hJl]; exact hAx) hA rfl rfl rfl rfl hc0 (hts _ (lw_lk_in _ (List.mem_of_getElem? (i := 66) rfl))) ⟨by decide, by decide⟩ ⟨Nat.le_refl _, Nat.le_refl _⟩ hp hP hS hl.1 (Nat.le_of_ble_eq_true rfl) dL_1299 (fun r J1 H locs hk hlen hP hS => ?_)
  obtain ⟨-, ⟨fs1, hc1⟩, z, rfl, hm⟩ := hk
  have hJl1 : J1.length = 135 := hlen.trans hJl
  refine lv_aload_n hx hb dL_1302 rfl (lv_at hl 2 rfl) ?_
  refine lv_aload_n hx hb dL_1303 rfl (lv_at hl 0 rfl) ?_
  refine lv_iload_n hx hb dL_1304 rfl (lv_at hl 3 rfl) ?_
  refine lv_iconst (v := nI 1) hx hb dL_1305 (by decide) ?_
  refine lv_iadd hx hb dL_1306 ?_
  refine va_sld hx hb hX hbl hbA hS (hin 1 (by decide)) dL_1307 ?_
  refine lv_aload_n hx hb dL_1308 rfl (lv_at hl 0 rfl) ?_
  refine lv_iload_n hx hb dL_1309 rfl (lv_at hl 3 rfl) ?_
  refine lv_iconst (v := nI 2) hx hb dL_1310 (by decide) ?_
  refine lv_iadd hx hb dL_1311 ?_
  refine va_sld hx hb hX hbl hbA hS (hin 2 (by decide)) dL_1312 ?_
  refine lw_V (k := i_X12_centre) (y := me_X12_centre) (i := 120) (ci := 11) (z := ("RivetedSistersModel", am_F11, 28)) (As := ([xs (x3 + nI 1).toNatClampNeg, xs (x3 + nI 2).toNatClampNeg].map Value.int)) (rest := [Value.int z]) hx hb hml hown hts hK hNW (by rw [hJl1]; exact hAx) hA rfl rfl rfl rfl hc1 (hts _ (lw_lk_in _ (List.mem_of_getElem? (i := 67) rfl))) ⟨by decide, by decide⟩ ⟨Nat.le_refl _, Nat.le_refl _⟩ hm hP hS hl.1 (Nat.le_of_ble_eq_true rfl) dL_1313 (fun r J2 H locs hk hlen hP hS => ?_)
  obtain ⟨-, rfl, a2, hJ2⟩ := hk
  have hJl2 : J2.length = 135 := hlen.trans hJl1
  refine lv_icmp_eq (tgt := 1630) hx hb dL_1316 (by decide) (fun _ => ?_) (fun z9 => absurd rfl z9)
  exact kk a2 J2 H locs ⟨hJ2, hJl2, hP, hS⟩
set_option maxHeartbeats 4000000 in
set_option maxRecDepth 100000 in
theorem law_c34 {p : Program} {l : Launch} {e : Env} {s : State} {m : MethodId} {below : List Frame} {meth : Method} {c : Code} {Q : State → Prop} {D : va_G} {ad : Nat → Nat} {cI cW : ClassId} {A : Nat → Prop} {b L : Nat} {xs : Nat → Int32} {x3 : Int32} {a : Ab} {J : AH} {H : Heap} {locs : List Loc} {ls : Array Slot} (C1 : LA p s m c D cI cW ad A b L xs) (hJ : LWS D cI cW ad A s a J H locs) (hl : lv_has ls 4 [(0, .ref b), (1, .ref (ad 0)), (2, .ref (ad 120)), (3, .int x3)]) (hin : ∀ d, d ≤ 6 → vp_in (x3 + nI d) L) (kk : ∀ (a2 : Ab) (J2 : AH) (H2 : Heap) (locs2 : List Loc), LWS D cI cW ad A s a2 J2 H2 locs2 → W p l e room_1 s m #[Value.ref b] below meth c H2 locs2 600000 7302250 Q (F0 m 1630 ls [])) : W p l e room_1 s m #[Value.ref b] below meth c H locs 600000 7302250 Q (F0 m 1321 ls []) := by
  obtain ⟨hx, hb, hml, hown, hts, hK, hNW, hAx, hA, hX, hbl, hbA⟩ := C1
  obtain ⟨hJS, hJl, hP, hS⟩ := hJ
  obtain ⟨fs, hc0⟩ := js_c hJS
  have hp := j_pair (mk := Value.int) (xs := [xs (x3 + nI 1).toNatClampNeg, xs (x3 + nI 2).toNatClampNeg]) (fun _ _ => rfl) pr_bestMend hJS
  refine lv_aload_n hx hb dL_1321 rfl (lv_at hl 1 rfl) ?_
  refine lv_aload_n hx hb dL_1322 rfl (lv_at hl 0 rfl) ?_
  refine lv_iload_n hx hb dL_1323 rfl (lv_at hl 3 rfl) ?_
  refine lv_iconst (v := nI 1) hx hb dL_1324 (by decide) ?_
  refine lv_iadd hx hb dL_1325 ?_
  refine va_sld hx hb hX hbl hbA hS (hin 1 (by decide)) dL_1326 ?_
  refine lv_aload_n hx hb dL_1327 rfl (lv_at hl 0 rfl) ?_
  refine lv_iload_n hx hb dL_1328 rfl (lv_at hl 3 rfl) ?_
  refine lv_iconst (v := nI 2) hx hb dL_1329 (by decide) ?_
  refine lv_iadd hx hb dL_1330 ?_
  refine va_sld hx hb hX hbl hbA hS (hin 2 (by decide)) dL_1331 ?_
  refine lw_V (k := i_X11_bestMend) (y := me_X11_bestMend) (i := 0) (ci := 10) (z := ("RivetedSisters", am_F10, 12)) (As := ([xs (x3 + nI 1).toNatClampNeg, xs (x3 + nI 2).toNatClampNeg].map Value.int)) (rest := []) hx hb hml hown hts hK hNW (by rw [hJl]; exact hAx) hA rfl rfl rfl rfl hc0 (hts _ (lw_lk_in _ (List.mem_of_getElem? (i := 68) rfl))) ⟨by decide, by decide⟩ ⟨Nat.le_refl _, Nat.le_refl _⟩ hp hP hS hl.1 (Nat.le_of_ble_eq_true rfl) dL_1332 (fun r J1 H locs hk hlen hP hS => ?_)
  obtain ⟨-, ⟨fs1, hc1⟩, z, rfl, hm⟩ := hk
  have hJl1 : J1.length = 135 := hlen.trans hJl
  refine lv_aload_n hx hb dL_1335 rfl (lv_at hl 2 rfl) ?_
  refine lv_aload_n hx hb dL_1336 rfl (lv_at hl 0 rfl) ?_
  refine lv_iload_n hx hb dL_1337 rfl (lv_at hl 3 rfl) ?_
  refine lv_iconst (v := nI 1) hx hb dL_1338 (by decide) ?_
  refine lv_iadd hx hb dL_1339 ?_
  refine va_sld hx hb hX hbl hbA hS (hin 1 (by decide)) dL_1340 ?_
  refine lv_aload_n hx hb dL_1341 rfl (lv_at hl 0 rfl) ?_
  refine lv_iload_n hx hb dL_1342 rfl (lv_at hl 3 rfl) ?_
  refine lv_iconst (v := nI 2) hx hb dL_1343 (by decide) ?_
  refine lv_iadd hx hb dL_1344 ?_
  refine va_sld hx hb hX hbl hbA hS (hin 2 (by decide)) dL_1345 ?_
  refine lw_V (k := i_X12_bestMend) (y := me_X12_bestMend) (i := 120) (ci := 11) (z := ("RivetedSistersModel", am_F11, 28)) (As := ([xs (x3 + nI 1).toNatClampNeg, xs (x3 + nI 2).toNatClampNeg].map Value.int)) (rest := [Value.int z]) hx hb hml hown hts hK hNW (by rw [hJl1]; exact hAx) hA rfl rfl rfl rfl hc1 (hts _ (lw_lk_in _ (List.mem_of_getElem? (i := 69) rfl))) ⟨by decide, by decide⟩ ⟨Nat.le_refl _, Nat.le_refl _⟩ hm hP hS hl.1 (Nat.le_of_ble_eq_true rfl) dL_1346 (fun r J2 H locs hk hlen hP hS => ?_)
  obtain ⟨-, rfl, a2, hJ2⟩ := hk
  have hJl2 : J2.length = 135 := hlen.trans hJl1
  refine lv_icmp_eq (tgt := 1630) hx hb dL_1349 (by decide) (fun _ => ?_) (fun z9 => absurd rfl z9)
  exact kk a2 J2 H locs ⟨hJ2, hJl2, hP, hS⟩
set_option maxHeartbeats 4000000 in
set_option maxRecDepth 100000 in
theorem law_c35 {p : Program} {l : Launch} {e : Env} {s : State} {m : MethodId} {below : List Frame} {meth : Method} {c : Code} {Q : State → Prop} {D : va_G} {ad : Nat → Nat} {cI cW : ClassId} {A : Nat → Prop} {b L : Nat} {xs : Nat → Int32} {x3 : Int32} {a : Ab} {J : AH} {H : Heap} {locs : List Loc} {ls : Array Slot} (C1 : LA p s m c D cI cW ad A b L xs) (hJ : LWS D cI cW ad A s a J H locs) (hl : lv_has ls 4 [(0, .ref b), (1, .ref (ad 0)), (2, .ref (ad 120)), (3, .int x3)]) (hin : ∀ d, d ≤ 6 → vp_in (x3 + nI d) L) (kk : ∀ (a2 : Ab) (J2 : AH) (H2 : Heap) (locs2 : List Loc), LWS D cI cW ad A s a2 J2 H2 locs2 → W p l e room_1 s m #[Value.ref b] below meth c H2 locs2 600000 7302250 Q (F0 m 1630 ls [])) : W p l e room_1 s m #[Value.ref b] below meth c H locs 600000 7302250 Q (F0 m 1354 ls []) := by
  obtain ⟨hx, hb, hml, hown, hts, hK, hNW, hAx, hA, hX, hbl, hbA⟩ := C1
  obtain ⟨hJS, hJl, hP, hS⟩ := hJ
  obtain ⟨fs, hc0⟩ := js_c hJS
  have hp := j_pair (mk := Value.int) (xs := [xs (x3 + nI 1).toNatClampNeg, xs (x3 + nI 2).toNatClampNeg, xs (x3 + nI 3).toNatClampNeg]) (fun _ _ => rfl) pr_bestFigure hJS
  refine lv_aload_n hx hb dL_1354 rfl (lv_at hl 1 rfl) ?_
  refine lv_aload_n hx hb dL_1355 rfl (lv_at hl 0 rfl) ?_
  refine lv_iload_n hx hb dL_1356 rfl (lv_at hl 3 rfl) ?_
  refine lv_iconst (v := nI 1) hx hb dL_1357 (by decide) ?_
  refine lv_iadd hx hb dL_1358 ?_
  refine va_sld hx hb hX hbl hbA hS (hin 1 (by decide)) dL_1359 ?_
  refine lv_aload_n hx hb dL_1360 rfl (lv_at hl 0 rfl) ?_
  refine lv_iload_n hx hb dL_1361 rfl (lv_at hl 3 rfl) ?_
  refine lv_iconst (v := nI 2) hx hb dL_1362 (by decide) ?_
  refine lv_iadd hx hb dL_1363 ?_
  refine va_sld hx hb hX hbl hbA hS (hin 2 (by decide)) dL_1364 ?_
  refine lv_aload_n hx hb dL_1365 rfl (lv_at hl 0 rfl) ?_
  refine lv_iload_n hx hb dL_1366 rfl (lv_at hl 3 rfl) ?_
  refine lv_iconst (v := nI 3) hx hb dL_1367 (by decide) ?_
  refine lv_iadd hx hb dL_1368 ?_
  refine va_sld hx hb hX hbl hbA hS (hin 3 (by decide)) dL_1369 ?_
  refine lw_V (k := i_X11_bestFigure) (y := me_X11_bestFigure) (i := 0) (ci := 10) (z := ("RivetedSisters", am_F10, 12)) (As := ([xs (x3 + nI 1).toNatClampNeg, xs (x3 + nI 2).toNatClampNeg, xs (x3 + nI 3).toNatClampNeg].map Value.int)) (rest := []) hx hb hml hown hts hK hNW (by rw [hJl]; exact hAx) hA rfl rfl rfl rfl hc0 (hts _ (lw_lk_in _ (List.mem_of_getElem? (i := 70) rfl))) ⟨by decide, by decide⟩ ⟨Nat.le_refl _, Nat.le_refl _⟩ hp hP hS hl.1 (Nat.le_of_ble_eq_true rfl) dL_1370 (fun r J1 H locs hk hlen hP hS => ?_)
  obtain ⟨-, ⟨fs1, hc1⟩, z, rfl, hm⟩ := hk
  have hJl1 : J1.length = 135 := hlen.trans hJl
  refine lv_aload_n hx hb dL_1373 rfl (lv_at hl 2 rfl) ?_
  refine lv_aload_n hx hb dL_1374 rfl (lv_at hl 0 rfl) ?_
  refine lv_iload_n hx hb dL_1375 rfl (lv_at hl 3 rfl) ?_
  refine lv_iconst (v := nI 1) hx hb dL_1376 (by decide) ?_
  refine lv_iadd hx hb dL_1377 ?_
  refine va_sld hx hb hX hbl hbA hS (hin 1 (by decide)) dL_1378 ?_
  refine lv_aload_n hx hb dL_1379 rfl (lv_at hl 0 rfl) ?_
  refine lv_iload_n hx hb dL_1380 rfl (lv_at hl 3 rfl) ?_
  refine lv_iconst (v := nI 2) hx hb dL_1381 (by decide) ?_
  refine lv_iadd hx hb dL_1382 ?_
  refine va_sld hx hb hX hbl hbA hS (hin 2 (by decide)) dL_1383 ?_
  refine lv_aload_n hx hb dL_1384 rfl (lv_at hl 0 rfl) ?_
  refine lv_iload_n hx hb dL_1385 rfl (lv_at hl 3 rfl) ?_
  refine lv_iconst (v := nI 3) hx hb dL_1386 (by decide) ?_
  refine lv_iadd hx hb dL_1387 ?_
  refine va_sld hx hb hX hbl hbA hS (hin 3 (by decide)) dL_1388 ?_
  refine lw_V (k := i_X12_bestFigure) (y := me_X12_bestFigure) (i := 120) (ci := 11) (z := ("RivetedSistersModel", am_F11, 28)) (As := ([xs (x3 + nI 1).toNatClampNeg, xs (x3 + nI 2).toNatClampNeg, xs (x3 + nI 3).toNatClampNeg].map Value.int)) (rest := [Value.int z]) hx hb hml hown hts hK hNW (by rw [hJl1]; exact hAx) hA rfl rfl rfl rfl hc1 (hts _ (lw_lk_in _ (List.mem_of_getElem? (i := 71) rfl))) ⟨by decide, by decide⟩ ⟨Nat.le_refl _, Nat.le_refl _⟩ hm hP hS hl.1 (Nat.le_of_ble_eq_true rfl) dL_1389 (fun r J2 H locs hk hlen hP hS => ?_)
  obtain ⟨-, rfl, a2, hJ2⟩ := hk
  have hJl2 : J2.length = 135 := hlen.trans hJl1
  refine lv_icmp_eq (tgt := 1630) hx hb dL_1392 (by decide) (fun _ => ?_) (fun z9 => absurd rfl z9)
  exact kk a2 J2 H locs ⟨hJ2, hJl2, hP, hS⟩
