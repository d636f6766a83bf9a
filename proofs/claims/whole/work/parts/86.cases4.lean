/-! THE LAW, case by case -/
set_option maxHeartbeats 4000000 in
set_option maxRecDepth 100000 in
theorem law_c18 {p : Program} {l : Launch} {e : Env} {s : State} {m : MethodId} {below : List Frame} {meth : Method} {c : Code} {Q : State → Prop} {D : va_G} {ad : Nat → Nat} {cI cW : ClassId} {A : Nat → Prop} {b L : Nat} {xs : Nat → Int32} {x3 : Int32} {a : Ab} {J : AH} {H : Heap} {locs : List Loc} {ls : Array Slot} (C1 : LA p s m c D cI cW ad A b L xs) (hJ : LWS D cI cW ad A s a J H locs) (hl : lv_has ls 4 [(0, .ref b), (1, .ref (ad 0)), (2, .ref (ad 120)), (3, .int x3)]) (hin : ∀ d, d ≤ 6 → vp_in (x3 + nI d) L) (kk : ∀ (a2 : Ab) (J2 : AH) (H2 : Heap) (locs2 : List Loc), LWS D cI cW ad A s a2 J2 H2 locs2 → W p l e room_1 s m #[Value.ref b] below meth c H2 locs2 600000 7302250 Q (F0 m 1630 ls [])) : W p l e room_1 s m #[Value.ref b] below meth c H locs 600000 7302250 Q (F0 m 800 ls []) := by
  obtain ⟨hx, hb, hml, hown, hts, hK, hNW, hAx, hA, hX, hbl, hbA⟩ := C1
  obtain ⟨hJS, hJl, hP, hS⟩ := hJ
  obtain ⟨fs, hc0⟩ := js_c hJS
  have hp := j_pair (mk := Value.int) (xs := [xs (x3 + nI 1).toNatClampNeg, xs (x3 + nI 2).toNatClampNeg]) (fun _ _ => rfl) pr_worst hJS
  refine lv_aload_n hx hb dL_800 rfl (lv_at hl 1 rfl) ?_
  refine lv_aload_n hx hb dL_801 rfl (lv_at hl 0 rfl) ?_
  refine lv_iload_n hx hb dL_802 rfl (lv_at hl 3 rfl) ?_
  refine lv_iconst (v := nI 1) hx hb dL_803 (by decide) ?_
  refine lv_iadd hx hb dL_804 ?_
  refine va_sld hx hb hX hbl hbA hS (hin 1 (by decide)) dL_805 ?_
  refine lv_aload_n hx hb dL_806 rfl (lv_at hl 0 rfl) ?_
  refine lv_iload_n hx hb dL_807 rfl (lv_at hl 3 rfl) ?_
  refine lv_iconst (v := nI 2) hx hb dL_808 (by decide) ?_
  refine lv_iadd hx hb dL_809 ?_
  refine va_sld hx hb hX hbl hbA hS (hin 2 (by decide)) dL_810 ?_
  refine lw_V (k := i_X11_worst) (y := me_X11_worst) (i := 0) (ci := 10) (z := ("RivetedSisters", am_F10, 12)) (As := ([xs (x3 + nI 1).toNatClampNeg, xs (x3 + nI 2).toNatClampNeg].map Value.int)) (rest := []) hx hb hml hown hts hK hNW (by rw [hJl]; exact hAx) hA rfl rfl rfl rfl hc0 (hts _ (lw_lk_in _ (List.mem_of_getElem? (i := 36) rfl))) ⟨by decide, by decide⟩ ⟨Nat.le_refl _, Nat.le_refl _⟩ hp hP hS hl.1 (Nat.le_of_ble_eq_true rfl) dL_811 (fun r J1 H locs hk hlen hP hS => ?_)
  obtain ⟨-, ⟨fs1, hc1⟩, z, rfl, hm⟩ := hk
  have hJl1 : J1.length = 135 := hlen.trans hJl
  refine lv_aload_n hx hb dL_814 rfl (lv_at hl 2 rfl) ?_
  refine lv_aload_n hx hb dL_815 rfl (lv_at hl 0 rfl) ?_
  refine lv_iload_n hx hb dL_816 rfl (lv_at hl 3 rfl) ?_
  refine lv_iconst (v := nI 1) hx hb dL_817 (by decide) ?_
  refine lv_iadd hx hb dL_818 ?_
  refine va_sld hx hb hX hbl hbA hS (hin 1 (by decide)) dL_819 ?_
  refine lv_aload_n hx hb dL_820 rfl (lv_at hl 0 rfl) ?_
  refine lv_iload_n hx hb dL_821 rfl (lv_at hl 3 rfl) ?_
  refine lv_iconst (v := nI 2) hx hb dL_822 (by decide) ?_
  refine lv_iadd hx hb dL_823 ?_
  refine va_sld hx hb hX hbl hbA hS (hin 2 (by decide)) dL_824 ?_
  refine lw_V (k := i_X12_worst) (y := me_X12_worst) (i := 120) (ci := 11) (z := ("RivetedSistersModel", am_F11, 28)) (As := ([xs (x3 + nI 1).toNatClampNeg, xs (x3 + nI 2).toNatClampNeg].map Value.int)) (rest := [Value.int z]) hx hb hml hown hts hK hNW (by rw [hJl1]; exact hAx) hA rfl rfl rfl rfl hc1 (hts _ (lw_lk_in _ (List.mem_of_getElem? (i := 37) rfl))) ⟨by decide, by decide⟩ ⟨Nat.le_refl _, Nat.le_refl _⟩ hm hP hS hl.1 (Nat.le_of_ble_eq_true rfl) dL_825 (fun r J2 H locs hk hlen hP hS => ?_)
  obtain ⟨-, rfl, a2, hJ2⟩ := hk
  have hJl2 : J2.length = 135 := hlen.trans hJl1
  refine lv_icmp_eq (tgt := 1630) hx hb dL_828 (by decide) (fun _ => ?_) (fun z9 => absurd rfl z9)
  exact kk a2 J2 H locs ⟨hJ2, hJl2, hP, hS⟩
set_option maxHeartbeats 4000000 in
set_option maxRecDepth 100000 in
theorem law_c19 {p : Program} {l : Launch} {e : Env} {s : State} {m : MethodId} {below : List Frame} {meth : Method} {c : Code} {Q : State → Prop} {D : va_G} {ad : Nat → Nat} {cI cW : ClassId} {A : Nat → Prop} {b L : Nat} {xs : Nat → Int32} {x3 : Int32} {a : Ab} {J : AH} {H : Heap} {locs : List Loc} {ls : Array Slot} (C1 : LA p s m c D cI cW ad A b L xs) (hJ : LWS D cI cW ad A s a J H locs) (hl : lv_has ls 4 [(0, .ref b), (1, .ref (ad 0)), (2, .ref (ad 120)), (3, .int x3)]) (hin : ∀ d, d ≤ 6 → vp_in (x3 + nI d) L) (kk : ∀ (a2 : Ab) (J2 : AH) (H2 : Heap) (locs2 : List Loc), LWS D cI cW ad A s a2 J2 H2 locs2 → W p l e room_1 s m #[Value.ref b] below meth c H2 locs2 600000 7302250 Q (F0 m 1630 ls [])) : W p l e room_1 s m #[Value.ref b] below meth c H locs 600000 7302250 Q (F0 m 833 ls []) := by
  obtain ⟨hx, hb, hml, hown, hts, hK, hNW, hAx, hA, hX, hbl, hbA⟩ := C1
  obtain ⟨hJS, hJl, hP, hS⟩ := hJ
  obtain ⟨fs, hc0⟩ := js_c hJS
  have hp := j_pair (mk := Value.int) (xs := [xs (x3 + nI 1).toNatClampNeg, xs (x3 + nI 2).toNatClampNeg]) (fun _ _ => rfl) pr_bestCut hJS
  refine lv_aload_n hx hb dL_833 rfl (lv_at hl 1 rfl) ?_
  refine lv_aload_n hx hb dL_834 rfl (lv_at hl 0 rfl) ?_
  refine lv_iload_n hx hb dL_835 rfl (lv_at hl 3 rfl) ?_
  refine lv_iconst (v := nI 1) hx hb dL_836 (by decide) ?_
  refine lv_iadd hx hb dL_837 ?_
  refine va_sld hx hb hX hbl hbA hS (hin 1 (by decide)) dL_838 ?_
  refine lv_aload_n hx hb dL_839 rfl (lv_at hl 0 rfl) ?_
  refine lv_iload_n hx hb dL_840 rfl (lv_at hl 3 rfl) ?_
  refine lv_iconst (v := nI 2) hx hb dL_841 (by decide) ?_
  refine lv_iadd hx hb dL_842 ?_
  refine va_sld hx hb hX hbl hbA hS (hin 2 (by decide)) dL_843 ?_
  refine lw_V (k := i_X11_bestCut) (y := me_X11_bestCut) (i := 0) (ci := 10) (z := ("RivetedSisters", am_F10, 12)) (As := ([xs (x3 + nI 1).toNatClampNeg, xs (x3 + nI 2).toNatClampNeg].map Value.int)) (rest := []) hx hb hml hown hts hK hNW (by rw [hJl]; exact hAx) hA rfl rfl rfl rfl hc0 (hts _ (lw_lk_in _ (List.mem_of_getElem? (i := 38) rfl))) ⟨by decide, by decide⟩ ⟨Nat.le_refl _, Nat.le_refl _⟩ hp hP hS hl.1 (Nat.le_of_ble_eq_true rfl) dL_844 (fun r J1 H locs hk hlen hP hS => ?_)
  obtain ⟨-, ⟨fs1, hc1⟩, z, rfl, hm⟩ := hk
  have hJl1 : J1.length = 135 := hlen.trans hJl
  refine lv_aload_n hx hb dL_847 rfl (lv_at hl 2 rfl) ?_
  refine lv_aload_n hx hb dL_848 rfl (lv_at hl 0 rfl) ?_
  refine lv_iload_n hx hb dL_849 rfl (lv_at hl 3 rfl) ?_
  refine lv_iconst (v := nI 1) hx hb dL_850 (by decide) ?_
  refine lv_iadd hx hb dL_851 ?_
  refine va_sld hx hb hX hbl hbA hS (hin 1 (by decide)) dL_852 ?_
  refine lv_aload_n hx hb dL_853 rfl (lv_at hl 0 rfl) ?_
  refine lv_iload_n hx hb dL_854 rfl (lv_at hl 3 rfl) ?_
  refine lv_iconst (v := nI 2) hx hb dL_855 (by decide) ?_
  refine lv_iadd hx hb dL_856 ?_
  refine va_sld hx hb hX hbl hbA hS (hin 2 (by decide)) dL_857 ?_
  refine lw_V (k := i_X12_bestCut) (y := me_X12_bestCut) (i := 120) (ci := 11) (z := ("RivetedSistersModel", am_F11, 28)) (As := ([xs (x3 + nI 1).toNatClampNeg, xs (x3 + nI 2).toNatClampNeg].map Value.int)) (rest := [Value.int z]) hx hb hml hown hts hK hNW (by rw [hJl1]; exact hAx) hA rfl rfl rfl rfl hc1 (hts _ (lw_lk_in _ (List.mem_of_getElem? (i := 39) rfl))) ⟨by decide, by decide⟩ ⟨Nat.le_refl _, Nat.le_refl _⟩ hm hP hS hl.1 (Nat.le_of_ble_eq_true rfl) dL_858 (fun r J2 H locs hk hlen hP hS => ?_)
  obtain ⟨-, rfl, a2, hJ2⟩ := hk
  have hJl2 : J2.length = 135 := hlen.trans hJl1
  refine lv_icmp_eq (tgt := 1630) hx hb dL_861 (by decide) (fun _ => ?_) (fun z9 => absurd rfl z9)
  exact kk a2 J2 H locs ⟨hJ2, hJl2, hP, hS⟩
set_option maxHeartbeats 4000000 in
set_option maxRecDepth 100000 in
theorem law_c20 {p : Program} {l : Launch} {e : Env} {s : State} {m : MethodId} {below : List Frame} {meth : Method} {c : Code} {Q : State → Prop} {D : va_G} {ad : Nat → Nat} {cI cW : ClassId} {A : Nat → Prop} {b L : Nat} {xs : Nat → Int32} {x3 : Int32} {a : Ab} {J : AH} {H : Heap} {locs : List Loc} {ls : Array Slot} (C1 : LA p s m c D cI cW ad A b L xs) (hJ : LWS D cI cW ad A s a J H locs) (hl : lv_has ls 4 [(0, .ref b), (1, .ref (ad 0)), (2, .ref (ad 120)), (3, .int x3)]) (hin : ∀ d, d ≤ 6 → vp_in (x3 + nI d) L) (kk : ∀ (a2 : Ab) (J2 : AH) (H2 : Heap) (locs2 : List Loc), LWS D cI cW ad A s a2 J2 H2 locs2 → W p l e room_1 s m #[Value.ref b] below meth c H2 locs2 600000 7302250 Q (F0 m 1630 ls [])) : W p l e room_1 s m #[Value.ref b] below meth c H locs 600000 7302250 Q (F0 m 866 ls []) := by
  obtain ⟨hx, hb, hml, hown, hts, hK, hNW, hAx, hA, hX, hbl, hbA⟩ := C1
  obtain ⟨hJS, hJl, hP, hS⟩ := hJ
  obtain ⟨fs, hc0⟩ := js_c hJS
  have hp := j_pair (mk := Value.int) (xs := [xs (x3 + nI 1).toNatClampNeg, xs (x3 + nI 2).toNatClampNeg]) (fun _ _ => rfl) pr_order hJS
  refine lv_aload_n hx hb dL_866 rfl (lv_at hl 1 rfl) ?_
  refine lv_aload_n hx hb dL_867 rfl (lv_at hl 0 rfl) ?_
  refine lv_iload_n hx hb dL_868 rfl (lv_at hl 3 rfl) ?_
  refine lv_iconst (v := nI 1) hx hb dL_869 (by decide) ?_
  refine lv_iadd hx hb dL_870 ?_
  refine va_sld hx hb hX hbl hbA hS (hin 1 (by decide)) dL_871 ?_
  refine lv_aload_n hx hb dL_872 rfl (lv_at hl 0 rfl) ?_
  refine lv_iload_n hx hb dL_873 rfl (lv_at hl 3 rfl) ?_
  refine lv_iconst (v := nI 2) hx hb dL_874 (by decide) ?_
  refine lv_iadd hx hb dL_875 ?_
  refine va_sld hx hb hX hbl hbA hS (hin 2 (by decide)) dL_876 ?_
  refine lw_V (k := i_X11_order) (y := me_X11_order) (i := 0) (ci := 10) (z := ("RivetedSisters", am_F10, 12)) (As := ([xs (x3 + nI 1).toNatClampNeg, xs (x3 + nI 2).toNatClampNeg].map Value.int)) (rest := []) hx hb hml hown hts hK hNW (by rw [hJl]; exact hAx) hA rfl rfl rfl rfl hc0 (hts _ (lw_lk_in _ (List.mem_of_getElem? (i := 40) rfl))) ⟨by decide, by decide⟩ ⟨Nat.le_refl _, Nat.le_refl _⟩ hp hP hS hl.1 (Nat.le_of_ble_eq_true rfl) dL_877 (fun r J1 H locs hk hlen hP hS => ?_)
  obtain ⟨-, ⟨fs1, hc1⟩, z, rfl, hm⟩ := hk
  have hJl1 : J1.length = 135 := hlen.trans hJl
  refine lv_aload_n hx hb dL_880 rfl (lv_at hl 2 rfl) ?_
  refine lv_aload_n hx hb dL_881 rfl (lv_at hl 0 rfl) ?_
  refine lv_iload_n hx hb dL_882 rfl (lv_at hl 3 rfl) ?_
  refine lv_iconst (v := nI 1) hx hb dL_883 (by decide) ?_
  refine lv_iadd hx hb dL_884 ?_
  refine va_sld hx hb hX hbl hbA hS (hin 1 (by decide)) dL_885 ?_
  refine lv_aload_n hx hb dL_886 rfl (lv_at hl 0 rfl) ?_
  refine lv_iload_n hx hb dL_887 rfl (lv_at hl 3 rfl) ?_
  refine lv_iconst (v := nI 2) hx hb dL_888 (by decide) ?_
  refine lv_iadd hx hb dL_889 ?_
  refine va_sld hx hb hX hbl hbA hS (hin 2 (by decide)) dL_890 ?_
  refine lw_V (k := i_X12_order) (y := me_X12_order) (i := 120) (ci := 11) (z := ("RivetedSistersModel", am_F11, 28)) (As := ([xs (x3 + nI 1).toNatClampNeg, xs (x3 + nI 2).toNatClampNeg].map Value.int)) (rest := [Value.int z]) hx hb hml hown hts hK hNW (by rw [hJl1]; exact hAx) hA rfl rfl rfl rfl hc1 (hts _ (lw_lk_in _ (List.mem_of_getElem? (i := 41) rfl))) ⟨by decide, by decide⟩ ⟨Nat.le_refl _, Nat.le_refl _⟩ hm hP hS hl.1 (Nat.le_of_ble_eq_true rfl) dL_891 (fun r J2 H locs hk hlen hP hS => ?_)
  obtain ⟨-, rfl, a2, hJ2⟩ := hk
  have hJl2 : J2.length = 135 := hlen.trans hJl1
  refine lv_icmp_eq (tgt := 1630) hx hb dL_894 (by decide) (fun _ => ?_) (fun z9 => absurd rfl z9)
  exact kk a2 J2 H locs ⟨hJ2, hJl2, hP, hS⟩
set_option maxHeartbeats 4000000 in
set_option maxRecDepth 100000 in
theorem law_c21 {p : Program} {l : Launch} {e : Env} {s : State} {m : MethodId} {below : List Frame} {meth : Method} {c : Code} {Q : State → Prop} {D : va_G} {ad : Nat → Nat} {cI cW : ClassId} {A : Nat → Prop} {b L : Nat} {xs : Nat → Int32} {x3 : Int32} {a : Ab} {J : AH} {H : Heap} {locs : List Loc} {ls : Array Slot} (C1 : LA p s m c D cI cW ad A b L xs) (hJ : LWS D cI cW ad A s a J H locs) (hl : lv_has ls 4 [(0, .ref b), (1, .ref (ad 0)), (2, .ref (ad 120)), (3, .int x3)]) (hin : ∀ d, d ≤ 6 → vp_in (x3 + nI d) L) (kk : ∀ (a2 : Ab) (J2 : AH) (H2 : Heap) (locs2 : List Loc), LWS D cI cW ad A s a2 J2 H2 locs2 → W p l e room_1 s m #[Value.ref b] below meth c H2 locs2 600000 7302250 Q (F0 m 1630 ls [])) : W p l e room_1 s m #[Value.ref b] below meth c H locs 600000 7302250 Q (F0 m 899 ls []) := by
  obtain ⟨hx, hb, hml, hown, hts, hK, hNW, hAx, hA, hX, hbl, hbA⟩ := C1
  obtain ⟨hJS, hJl, hP, hS⟩ := hJ
  obtain ⟨fs, hc0⟩ := js_c hJS
  have hp := j_pair (mk := Value.int) (xs := [xs (x3 + nI 1).toNatClampNeg]) (fun _ _ => rfl) pr_walk hJS
  refine lv_aload_n hx hb dL_899 rfl (lv_at hl 1 rfl) ?_
  refine lv_aload_n hx hb dL_900 rfl (lv_at hl 0 rfl) ?_
  refine lv_iload_n hx hb dL_901 rfl (lv_at hl 3 rfl) ?_
  refine lv_iconst (v := nI 1) hx hb dL_902 (by decide) ?_
  refine lv_iadd hx hb dL_903 ?_
  refine va_sld hx hb hX hbl hbA hS (hin 1 (by decide)) dL_904 ?_
  refine lw_V (k := i_X11_walk) (y := me_X11_walk) (i := 0) (ci := 10) (z := ("RivetedSisters", am_F10, 12)) (As := ([xs (x3 + nI 1).toNatClampNeg].map Value.int)) (rest := []) hx hb hml hown hts hK hNW (by rw [hJl]; exact hAx) hA rfl rfl rfl rfl hc0 (hts _ (lw_lk_in _ (List.mem_of_getElem? (i := 42) rfl))) ⟨by decide, by decide⟩ ⟨Nat.le_refl _, Nat.le_refl _⟩ hp hP hS hl.1 (Nat.le_of_ble_eq_true rfl) dL_905 (fun r J1 H locs hk hlen hP hS => ?_)
  obtain ⟨-, ⟨fs1, hc1⟩, z, rfl, hm⟩ := hk
  have hJl1 : J1.length = 135 := hlen.trans hJl
  refine lv_aload_n hx hb dL_908 rfl (lv_at hl 2 rfl) ?_
  refine lv_aload_n hx hb dL_909 rfl (lv_at hl 0 rfl) ?_
  refine lv_iload_n hx hb dL_910 rfl (lv_at hl 3 rfl) ?_
  refine lv_iconst (v := nI 1) hx hb dL_911 (by decide) ?_
  refine lv_iadd hx hb dL_912 ?_
  refine va_sld hx hb hX hbl hbA hS (hin 1 (by decide)) dL_913 ?_
  refine lw_V (k := i_X12_walk) (y := me_X12_walk) (i := 120) (ci := 11) (z := ("RivetedSistersModel", am_F11, 28)) (As := ([xs (x3 + nI 1).toNatClampNeg].map Value.int)) (rest := [Value.int z]) hx hb hml hown hts hK hNW (by rw [hJl1]; exact hAx) hA rfl rfl rfl rfl hc1 (hts _ (lw_lk_in _ (List.mem_of_getElem? (i := 43) rfl))) ⟨by decide, by decide⟩ ⟨Nat.le_refl _, Nat.le_refl _⟩ hm hP hS hl.1 (Nat.le_of_ble_eq_true rfl) dL_914 (fun r J2 H locs hk hlen hP hS => ?_)
  obtain ⟨-, rfl, a2, hJ2⟩ := hk
  have hJl2 : J2.length = 135 := hlen.trans hJl1
  refine lv_icmp_eq (tgt := 1630) hx hb dL_917 (by decide) (fun _ => ?_) (fun z9 => absurd rfl z9)
  exact kk a2 J2 H locs ⟨hJ2, hJl2, hP, hS⟩
set_option maxHeartbeats 4000000 in
set_option maxRecDepth 100000 in
theorem law_c22 {p : Program} {l : Launch} {e : Env} {s : State} {m : MethodId} {below : List Frame} {meth : Method} {c : Code} {Q : State → Prop} {D : va_G} {ad : Nat → Nat} {cI cW : ClassId} {A : Nat → Prop} {b L : Nat} {xs : Nat → Int32} {x3 : Int32} {a : Ab} {J : AH} {H : Heap} {locs : List Loc} {ls : Array Slot} (C1 : LA p s m c D cI cW ad A b L xs) (hJ : LWS D cI cW ad A s a J H locs) (hl : lv_has ls 4 [(0, .ref b), (1, .ref (ad 0)), (2, .ref (ad 120)), (3, .int x3)]) (hin : ∀ d, d ≤ 6 → vp_in (x3 + nI d) L) (kk : ∀ (a2 : Ab) (J2 : AH) (H2 : Heap) (locs2 : List Loc), LWS D cI cW ad A s a2 J2 H2 locs2 → W p l e room_1 s m #[Value.ref b] below meth c H2 locs2 600000 7302250 Q (F0 m 1630 ls [])) : W p l e room_1 s m #[Value.ref b] below meth c H locs 600000 7302250 Q (F0 m 922 ls []) := by
  obtain ⟨hx, hb, hml, hown, hts, hK, hNW, hAx, hA, hX, hbl, hbA⟩ := C1
  obtain ⟨hJS, hJl, hP, hS⟩ := hJ
  obtain ⟨fs, hc0⟩ := js_c hJS
  have hp := j_pair (mk := Value.int) (xs := [xs (x3 + nI 1).toNatClampNeg, xs (x3 + nI 2).toNatClampNeg]) (fun _ _ => rfl) pr_woman hJS
  refine lv_aload_n hx hb dL_922 rfl (lv_at hl 1 rfl) ?_
  refine lv_aload_n hx hb dL_923 rfl (lv_at hl 0 rfl) ?_
  refine lv_iload_n hx hb dL_924 rfl (lv_at hl 3 rfl) ?_
  refine lv_iconst (v := nI 1) hx hb dL_925 (by decide) ?_
  refine lv_iadd hx hb dL_926 ?_
  refine va_sld hx hb hX hbl hbA hS (hin 1 (by decide)) dL_927 ?_
  refine lv_aload_n hx hb dL_928 rfl (lv_at hl 0 rfl) ?_
  refine lv_iload_n hx hb dL_929 rfl (lv_at hl 3 rfl) ?_
  refine lv_iconst (v := nI 2) hx hb dL_930 (by decide) ?_
  refine lv_iadd hx hb dL_931 ?_
  refine va_sld hx hb hX hbl hbA hS (hin 2 (by decide)) dL_932 ?_
  refine lw_V (k := i_X11_woman) (y := me_X11_woman) (i := 0) (ci := 10) (z := ("RivetedSisters", am_F10, 12)) (As := ([xs (x3 + nI 1).toNatClampNeg, xs (x3 + nI 2).toNatClampNeg].map Value.int)) (rest := []) hx hb hml hown hts hK hNW (by rw [hJl]; exact hAx) hA rfl rfl rfl rfl hc0 (hts _ (lw_lk_in _ (List.mem_of_getElem? (i := 44) rfl))) ⟨by decide, by decide⟩ ⟨Nat.le_refl _, Nat.le_refl _⟩ hp hP hS hl.1 (Nat.le_of_ble_eq_true rfl) dL_933 (fun r J1 H locs hk hlen hP hS => ?_)
  obtain ⟨-, ⟨fs1, hc1⟩, z, rfl, hm⟩ := hk
  have hJl1 : J1.length = 135 := hlen.trans hJl
  refine lv_aload_n hx hb dL_936 rfl (lv_at hl 2 rfl) ?_
  refine lv_aload_n hx hb dL_937 rfl (lv_at hl 0 rfl) ?_
  refine lv_iload_n hx hb dL_938 rfl (lv_at hl 3 rfl) ?_
  refine lv_iconst (v := nI 1) hx hb dL_939 (by decide) ?_
  refine lv_iadd hx hb dL_940 ?_
  refine va_sld hx hb hX hbl hbA hS (hin 1 (by decide)) dL_941 ?_
  refine lv_aload_n hx hb dL_942 rfl (lv_at hl 0 rfl) ?_
  refine lv_iload_n hx hb dL_943 rfl (lv_at hl 3 rfl) ?_
  refine lv_iconst (v := nI 2) hx hb dL_944 (by decide) ?_
  refine lv_iadd hx hb dL_945 ?_
  refine va_sld hx hb hX hbl hbA hS (hin 2 (by decide)) dL_946 ?_
  refine lw_V (k := i_X12_woman) (y := me_X12_woman) (i := 120) (ci := 11) (z := ("RivetedSistersModel", am_F11, 28)) (As := ([xs (x3 + nI 1).toNatClampNeg, xs (x3 + nI 2).toNatClampNeg].map Value.int)) (rest := [Value.int z]) hx hb hml hown hts hK hNW (by rw [hJl1]; exact hAx) hA rfl rfl rfl rfl hc1 (hts _ (lw_lk_in _ (List.mem_of_getElem? (i := 45) rfl))) ⟨by decide, by decide⟩ ⟨Nat.le_refl _, Nat.le_refl _⟩ hm hP hS hl.1 (Nat.le_of_ble_eq_true rfl) dL_947 (fun r J2 H locs hk hlen hP hS => ?_)
  obtain ⟨-, rfl, a2, hJ2⟩ := hk
  have hJl2 : J2.length = 135 := hlen.trans hJl1
  refine lv_icmp_eq (tgt := 1630) hx hb dL_950 (by decide) (fun _ => ?_) (fun z9 => absurd rfl z9)
  exact kk a2 J2 H locs ⟨hJ2, hJl2, hP, hS⟩
set_option maxHeartbeats 4000000 in
set_option maxRecDepth 100000 in
theorem law_c23 {p : Program} {l : Launch} {e : Env} {s : State} {m : MethodId} {below : List Frame} {meth : Method} {c : Code} {Q : State → Prop} {D : va_G} {ad : Nat → Nat} {cI cW : ClassId} {A : Nat → Prop} {b L : Nat} {xs : Nat → Int32} {x3 : Int32} {a : Ab} {J : AH} {H : Heap} {locs : List Loc} {ls : Array Slot} (C1 : LA p s m c D cI cW ad A b L xs) (hJ : LWS D cI cW ad A s a J H locs) (hl : lv_has ls 4 [(0, .ref b), (1, .ref (ad 0)), (2, .ref (ad 120)), (3, .int x3)]) (hin : ∀ d, d ≤ 6 → vp_in (x3 + nI d) L) (kk : ∀ (a2 : Ab) (J2 : AH) (H2 : Heap) (locs2 : List Loc), LWS D cI cW ad A s a2 J2 H2 locs2 → W p l e room_1 s m #[Value.ref b] below meth c H2 locs2 600000 7302250 Q (F0 m 1630 ls [])) : W p l e room_1 s m #[Value.ref b] below meth c H locs 600000 7302250 Q (F0 m 955 ls []) := by
  obtain ⟨hx, hb, hml, hown, hts, hK, hNW, hAx, hA, hX, hbl, hbA⟩ := C1
  obtain ⟨hJS, hJl, hP, hS⟩ := hJ
  obtain ⟨fs, hc0⟩ := js_c hJS
  have hp := j_pair (mk := Value.int) (xs := [xs (x3 + nI 1).toNatClampNeg]) (fun _ _ => rfl) pr_lasts hJS
  refine lv_aload_n hx hb dL_955 rfl (lv_at hl 1 rfl) ?_
  refine lv_aload_n hx hb dL_956 rfl (lv_at hl 0 rfl) ?_
  refine lv_iload_n hx hb dL_957 rfl (lv_at hl 3 rfl) ?_
  refine lv_iconst (v := nI 1) hx hb dL_958 (by decide) ?_
  refine lv_iadd hx hb dL_959 ?_
  refine va_sld hx hb hX hbl hbA hS (hin 1 (by decide)) dL_960 ?_
  refine lw_V (k := i_X11_lasts) (y := me_X11_lasts) (i := 0) (ci := 10) (z := ("RivetedSisters", am_F10, 12)) (As := ([xs (x3 + nI 1).toNatClampNeg].map Value.int)) (rest := []) hx hb hml hown hts hK hNW (by rw [hJl]; exact hAx) hA rfl rfl rfl rfl hc0 (hts _ (lw_lk_in _ (List.mem_of_getElem? (i := 46) rfl))) ⟨by decide, by decide⟩ ⟨Nat.le_refl _, Nat.le_refl _⟩ hp hP hS hl.1 (Nat.le_of_ble_eq_true rfl) dL_961 (fun r J1 H locs hk hlen hP hS => ?_)
  obtain ⟨-, ⟨fs1, hc1⟩, z, rfl, hm⟩ := hk
  have hJl1 : J1.length = 135 := hlen.trans hJl
  refine lv_aload_n hx hb dL_964 rfl (lv_at hl 2 rfl) ?_
  refine lv_aload_n hx hb dL_965 rfl (lv_at hl 0 rfl) ?_
  refine lv_iload_n hx hb dL_966 rfl (lv_at hl 3 rfl) ?_
  refine lv_iconst (v := nI 1) hx hb dL_967 (by decide) ?_
  refine lv_iadd hx hb dL_968 ?_
  refine va_sld hx hb hX hbl hbA hS (hin 1 (by decide)) dL_969 ?_
  refine lw_V (k := i_X12_lasts) (y := me_X12_lasts) (i := 120) (ci := 11) (z := ("RivetedSistersModel", am_F11, 28)) (As := ([xs (x3 + nI 1).toNatClampNeg].map Value.int)) (rest := [Value.int z]) hx hb hml hown hts hK hNW (by rw [hJl1]; exact hAx) hA rfl rfl rfl rfl hc1 (hts _ (lw_lk_in _ (List.mem_of_getElem? (i := 47) rfl))) ⟨by decide, by decide⟩ ⟨Nat.le_refl _, Nat.le_refl _⟩ hm hP hS hl.1 (Nat.le_of_ble_eq_true rfl) dL_970 (fun r J2 H locs hk hlen hP hS => ?_)
  obtain ⟨-, rfl, a2, hJ2⟩ := hk
  have hJl2 : J2.length = 135 := hlen.trans hJl1
  refine lv_icmp_eq (tgt := 1630) hx hb dL_973 (by decide) (fun _ => ?_) (fun z9 => absurd rfl z9)
  exact kk a2 J2 H locs ⟨hJ2, hJl2, hP, hS⟩
