/-! CONSTRUCTORS: the wires that can be taken back -/
section CP
variable {p : Program} {l : Launch} {e : Env} {R : Room} {s : State} {m : MethodId} {args : Array Value} {below : List Frame} {meth : Method} {c : Code} {Q : State → Prop} {D : va_G} {cI cW : ClassId} {A : Nat → Prop} {cc : ByteArray} {nL o : Nat} {cells slots pc : Nat} {H : Heap} {locs : List Loc} {ls : Array Slot} {rest : List Value} {ad : Nat → Nat} {J : AH}
theorem cn_newq (X : CNX p s m args c D cI cW A cc nL o) (hN : CNS D cI cW A s ad J H locs) {n idx : Nat} {x : Int32} (hx1 : ¬ x < 0) (hx2 : x.toNatClampNeg = n) (hb4 : n ≤ 100000) (hcells : cells + 1 ≤ R.cells) (hslots : slots + n ≤ R.slots) (hclk : Cond.classLink (am_cn o) idx "RivetedSisters$Wire" ∈ am_TS) (hd : decode cc pc = .ok (.anewarray idx, 3)) (kk : ∀ (ad2 : Nat → Nat) (H2 : Heap), (∀ i, i < J.length → ad2 i = ad i) → CNS D cI cW A s ad2 (J ++ [.inr (.inl (n, fun _ => none))]) H2 locs → W p l e R s m args below meth c H2 locs (cells + 1) (slots + n) Q (F0 m (pc + 3) ls (.ref (ad2 J.length) :: rest))) : W p l e R s m args below meth c H locs cells slots Q (F0 m pc ls (.int x :: rest)) := by
  obtain ⟨hx, hb, hml, hown, hts, hK, hNW, hA⟩ := X
  obtain ⟨hP, hD, hS, hC⟩ := hN
  refine va_newq (C := "RivetedSisters$Wire") hx hb hown (hts _ hclk) hNW.2 hK hP hD hS hA hx1 hx2 (by omega) hcells hslots hd (fun q cA H1 hK1 hP1 hD1 hS1 => ?_)
  have e1 : s.vm.findClass ("[" ++ (FieldType.object "RivetedSisters$Wire").toString) = some cW := by
    obtain ⟨kA, comp, g1, g2, g3, g4⟩ := (hK.2 1 (cW, .object "RivetedSisters$Wire") rfl).2
    exact g4
  have e2 : s.vm.findClass ("[" ++ (FieldType.object "RivetedSisters$Wire").toString) = some cA := by
    obtain ⟨kA, comp, g1, g2, g3, g4⟩ := (hK1.2 2 (cA, .object "RivetedSisters$Wire") rfl).2
    exact g4
  obtain rfl : cA = cW := Option.some.inj (e2.symm.trans e1)
  have ew : am_w (cn_u J.length ad (fun _ => q)) cI cA (J ++ [.inr (.inl (n, fun _ => none))]) = am_w ad cI cA J ++ [(q, .inl (cA, n, .inr (.inr (.inr (.inr (fun _ => none))))))] := w_join (f := ad) (g := fun _ => q) (J := J) (K := [.inr (.inl (n, fun _ => none))]) hC
  have h2 := kk (cn_u J.length ad (fun _ => q)) H1 (fun i hi => cn_u_lo hi) ⟨by rw [ew]; exact hP1, by rw [ew]; exact hD1, hS1, by
    rw [List.length_append]
    exact cl_h_app (cl_h_mo (Nat.le_add_right _ _) hC) (cl_h_cons (fun j x h => by cases h) (fun _ h => absurd h List.not_mem_nil))⟩
  rw [cn_u_at] at h2
  exact h2
end CP
def cnP : AC := .inr (.inr (4, [.ref 1, .int (nI 0), .int (nI 0)]))
section CPK
variable {p : Program} {l : Launch} {e : Env} {R : Room} {s : State} {m : MethodId} {args : Array Value} {below : List Frame} {meth : Method} {c : Code} {Q : State → Prop} {D : va_G} {cI cW : ClassId} {A : Nat → Prop} {cells slots : Nat} {H : Heap} {locs : List Loc} {ls : Array Slot} {ad : Nat → Nat} {J : AH}
/-- one turn of the loop -/
theorem cn_kept (X : CNX p s m args c D cI cW A prog_7_method_1_code 2 5) {i a : Nat} {f : Nat → Option Nat} (hi : i < 8) (hl : lv_has ls 2 [(1, .int (nI i)), (0, .ref a)]) (hN : CNS D cI cW A s ad (cnP :: .inr (.inl (8, f)) :: J) H locs) (hT : ad 0 = a) (hR : 2 ≤ R.frames ∧ 32 ≤ R.locals) (hc1 : cells + 1 + 5 ≤ R.cells) (hs1 : slots + 9 + 40 ≤ R.slots) (kk : ∀ (ad2 : Nat → Nat) (H2 : Heap) (locs2 : List Loc) (ls2 : Array Slot), ad2 0 = a → CNS D cI cW A s ad2 (cnP :: .inr (.inl (8, va_up f i (some (J.length + 2)))) :: (J ++ j_9.map (am_rc (fun i => i + (J.length + 2))))) H2 locs2 → lv_has ls2 2 [(1, .int (nI (i + 1))), (0, .ref a)] → W p l e R s m args below meth c H2 locs2 (cells + 1 + 5) (slots + 9 + 40) Q (F0 m 25 ls2 [])) : W p l e R s m args below meth c H locs cells slots Q (F0 m 25 ls []) := by
  have hx := X.1
  have hb := X.2.1
  refine lv_iload_n hx hb dK5_25 rfl (lv_at hl 0 rfl) ?_
  refine lv_bipush (v := nI 8) hx hb dK5_26 (by decide) ?_
  refine lv_icmp_ge (tgt := 50) hx hb dK5_28 (by decide) (fun c1 => absurd c1 (nI_ge hi (by decide))) (fun _ => ?_)
  refine lv_aload_n hx hb dK5_31 rfl (lv_at hl 1 rfl) ?_
  obtain ⟨hkN, hlk, hu, ty0, hty, hnm⟩ := cn_fl (o := 5) (i := 11) (k := 0) (by decide +kernel) cK_4.1
  refine va_get (D := D) (ci := 4) (v := .ref (ad 1)) (C := "RivetedSisters$Past") (T := am_F4) (N := 3) hx hb X.2.2.2.2.1 hu X.2.2.2.1 X.2.2.2.2.2.1 hN.1 0 (fs := [.ref (ad 1), .int (nI 0), .int (nI 0)]) (by rw [← hT]; rfl) cK_4.1 0 hkN (X.2.2.2.2.1 _ hlk) (fun _ y => y) rfl dK5_32 ?_
  refine lv_iload_n hx hb dK5_35 rfl (lv_at hl 0 rfl) ?_
  refine cn_newR X hN cK_9 cC_9 cJ_9 ⟨rfl, rfl⟩ ⟨hR.1, by show 8 + (1 + 11) + 12 ≤ R.locals; exact hR.2⟩ hc1 hs1 cw_82 (Or.inr (by decide +kernel)) hl.1 (by show 1 + (1 + 0) ≤ 7; decide) dK5_36 dK5_39 dK5_40 (fun ad2 H2 locs2 hag hN2 => ?_)
  have hT2 : ad2 0 = a := (hag 0 (Nat.succ_pos _)).trans hT
  have h1 : ad 1 = ad2 1 := (hag 1 (Nat.succ_lt_succ (Nat.succ_pos _))).symm
  rw [h1]
  have hN2 : CNS D cI cW A s ad2 (cnP :: .inr (.inl (8, f)) :: J ++ j_9.map (am_rc (fun i => i + (J.length + 2)))) H2 locs2 := hN2
  obtain ⟨hP, hD, hS, hcl⟩ := hN2
  have hat : (am_w ad2 cI cW (cnP :: .inr (.inl (8, f)) :: J ++ j_9.map (am_rc (fun i => i + (J.length + 2)))))[J.length + 2]? = some (ad2 (J.length + 2), am_c ad2 cI cW (am_rc (fun i => i + (J.length + 2)) (.inr (.inr (9, [.int (nI 0), .int (nI 0), .int (nI 0), .int (nI 0), .ref 1, .ref 2, .ref 3, .ref 4, .ref 5]))))) := am_w_at (by
    rw [List.getElem?_append_right (show (cnP :: .inr (.inl (8, f)) :: J).length ≤ J.length + 2 from Nat.le_refl _), show (cnP :: .inr (.inl (8, f)) :: J).length = J.length + 2 from rfl, Nat.sub_self]
    rfl)
  refine va_astq (D := D) hx hb X.2.2.2.2.2.1 hP hD hS 1 1 (J.length + 2) 9 (cA := cW) (r := ("RivetedSisters$Wire", am_F9, 9)) (n := 8) (f := fun k => (f k).map ad2) rfl rfl hat cK_9.1 (vp_in_nI hi (by decide)) dK5_43 (fun H3 locs3 hP3 hD3 hS3 => ?_)
  have ef : (fun k => (va_up f i (some (J.length + 2)) k).map ad2) = va_up (fun k => (f k).map ad2) (nI i).toNatClampNeg (some (ad2 (J.length + 2))) := by
    rw [nI_clamp (show i < 2 ^ 31 by omega)]
    funext k
    unfold va_up
    by_cases hk : k = i
    · rw [if_pos hk, if_pos hk]; rfl
    · rw [if_neg hk, if_neg hk]
  have es : (am_w ad2 cI cW (cnP :: .inr (.inl (8, f)) :: J ++ j_9.map (am_rc (fun i => i + (J.length + 2))))).set 1 (ad2 1, .inl (cW, 8, .inr (.inr (.inr (.inr (va_up (fun k => (f k).map ad2) (nI i).toNatClampNeg (some (ad2 (J.length + 2))))))))) = am_w ad2 cI cW (cnP :: .inr (.inl (8, va_up f i (some (J.length + 2)))) :: (J ++ j_9.map (am_rc (fun i => i + (J.length + 2))))) := by
    rw [← ef]; rfl
  rw [es] at hP3 hD3
  refine lv_iinc (v := nI (i + 1)) (k := 0) (lv' := [(1, .int (nI (i + 1))), (0, .ref a)]) hx hb dK5_44 hl rfl (by rw [← nI_add]; rfl) (by decide) rfl (fun ls2 hl2 => ?_)
  refine lv_goto (tgt := 25) hx hb dK5_47 (by decide) ?_
  refine kk ad2 H3 locs3 ls2 hT2 ⟨hP3, hD3, hS3, ?_⟩ hl2
  refine cl_h_cons (hcl _ List.mem_cons_self) (cl_h_cons (fun j x h => ?_) (fun d hd => hcl d (List.mem_cons_of_mem _ (List.mem_cons_of_mem _ hd))))
  have h : va_up f i (some (J.length + 2)) j = some x := h
  have hlen : (cnP :: .inr (.inl (8, va_up f i (some (J.length + 2)))) :: (J ++ j_9.map (am_rc (fun i => i + (J.length + 2))))).length = J.length + 6 + 2 := by
    show (J ++ _).length + 1 + 1 = _
    rw [List.length_append, List.length_map]; rfl
  rw [hlen]
  unfold va_up at h
  by_cases hj : j = i
  · rw [if_pos hj] at h
    cases h
    omega
  · rw [if_neg hj] at h
    have h2 : x < _ := hcl (.inr (.inl (8, f))) (List.mem_cons_of_mem _ List.mem_cons_self) j x h
    have hlen2 : (cnP :: .inr (.inl (8, f)) :: J ++ j_9.map (am_rc (fun i => i + (J.length + 2)))).length = J.length + 6 + 2 := by
      show (J ++ _).length + 1 + 1 = _
      rw [List.length_append, List.length_map]; rfl
    rw [← hlen2]
    exact h2
end CPK
def kB (i : Nat) : Option Nat := if i < 8 then some (2 + 6 * i) else none
def j_4 : AH := cnP :: .inr (.inl (8, kB)) :: (j_9.map (am_rc (fun i => i + 2)) ++ j_9.map (am_rc (fun i => i + 8)) ++ j_9.map (am_rc (fun i => i + 14)) ++ j_9.map (am_rc (fun i => i + 20)) ++ j_9.map (am_rc (fun i => i + 26)) ++ j_9.map (am_rc (fun i => i + 32)) ++ j_9.map (am_rc (fun i => i + 38)) ++ j_9.map (am_rc (fun i => i + 44)))
theorem kB_e : va_up (va_up (va_up (va_up (va_up (va_up (va_up (va_up (fun _ => (none : Option Nat)) 0 (some 2)) 1 (some 8)) 2 (some 14)) 3 (some 20)) 4 (some 26)) 5 (some 32)) 6 (some 38)) 7 (some 44) = kB := by
  funext j
  unfold va_up kB
  by_cases h : j < 8
  · rcases (show j = 0 ∨ j = 1 ∨ j = 2 ∨ j = 3 ∨ j = 4 ∨ j = 5 ∨ j = 6 ∨ j = 7 by omega) with rfl | rfl | rfl | rfl | rfl | rfl | rfl | rfl <;> rfl
  · rw [if_neg (by omega), if_neg (by omega), if_neg (by omega), if_neg (by omega), if_neg (by omega), if_neg (by omega), if_neg (by omega), if_neg (by omega), if_neg h]
theorem cJ_4 : cl_h j_4.length j_4 := by
  refine cl_h_cons (cl_cb_c rfl) (cl_h_cons (fun j x h => ?_) ?_)
  · have h : kB j = some x := h
    show x < 50
    unfold kB at h
    by_cases hj : j < 8
    · rw [if_pos hj] at h; cases h; omega
    · rw [if_neg hj] at h; cases h
  · exact fun c hc => cl_cb_c (k := 50) (List.all_eq_true.mp (show List.all (j_9.map (am_rc (fun i => i + 2)) ++ j_9.map (am_rc (fun i => i + 8)) ++ j_9.map (am_rc (fun i => i + 14)) ++ j_9.map (am_rc (fun i => i + 20)) ++ j_9.map (am_rc (fun i => i + 26)) ++ j_9.map (am_rc (fun i => i + 32)) ++ j_9.map (am_rc (fun i => i + 38)) ++ j_9.map (am_rc (fun i => i + 44))) (cl_cb 50) = true from rfl) c hc)
set_option maxRecDepth 100000 in
set_option maxHeartbeats 4000000 in
theorem cC_4 {l : Launch} {D : va_G} {cI cW : ClassId} : cn_C l D cI cW "RivetedSisters$Past" prog_7_method_1_code 2 { frames := 2, cells := 49, slots := 400, locals := 32 } 4 [.null, .int 0, .int 0] j_4 49 400 := by
  refine cn_met (o := 5) (idx := 3) cK_4 (by decide) rfl (by decide) cw_81 ⟨by decide, by decide⟩ dK5_0 dK5_1 ?_
  intro p e s m args below meth c A a ls X hin hr hlk hl hN
  obtain ⟨ad, had⟩ : ∃ z : Nat → Nat, z = fun _ => a := ⟨_, rfl⟩
  have hT : ad 0 = a := by rw [had]
  rw [← had] at hN
  clear had
  have hx := X.1
  have hb := X.2.1
  refine lv_aload_n hx hb dK5_4 rfl (lv_at hl 0 rfl) ?_
  refine lv_bipush (v := nI 8) hx hb dK5_5 (by decide) ?_
  refine cn_newq X hN (n := 8) (nI_pos (by decide)) (nI_clamp (by decide)) (by decide) (Nat.le_of_ble_eq_true rfl) (Nat.le_of_ble_eq_true rfl) cw_82 dK5_7 (fun ad2 H2 hag hN2 => ?_)
  have hT2 : ad2 0 = a := (hag 0 (Nat.succ_pos _)).trans hT
  refine cn_putF (J := [.inr (.inl (8, fun _ => none))]) (v := .ref 1) X hin hN2 hT2 cK_4.1 (i := 11) (k := 0) (by decide +kernel) rfl rfl (cK_4.2.2.1 0 (by decide)) rfl rfl (by decide) (by show 1 < 2; decide) dK5_10 (fun H3 locs3 hN3 => ?_)
  refine cn_cst (k := 1) (v := .int (nI 0)) (pcA := 15) X hl hN3 hT2 cK_4.1 (i := 17) (by decide +kernel) rfl rfl (cK_4.2.2.1 1 (by decide)) (by decide) (by decide) (by decide) trivial dK5_13 (fun st h => lv_iconst (v := nI 0) X.1 X.2.1 dK5_14 (by decide) h) dK5_15 (fun H4 locs4 hN4 => ?_)
  refine cn_cst (k := 2) (v := .int (nI 0)) (pcA := 20) X hl hN4 hT2 cK_4.1 (i := 21) (by decide +kernel) rfl rfl (cK_4.2.2.1 2 (by decide)) (by decide) (by decide) (by decide) trivial dK5_18 (fun st h => lv_iconst (v := nI 0) X.1 X.2.1 dK5_19 (by decide) h) dK5_20 (fun H5 locs5 hN5 => ?_)
  refine lv_iconst (v := nI 0) hx hb dK5_23 (by decide) ?_
  refine lv_istore_n (lv' := [(1, .int (nI 0)), (0, .ref a)]) hx hb dK5_24 rfl hl (by decide) rfl (fun ls hl => ?_)
  have hN : CNS D cI cW A s ad2 (cnP :: .inr (.inl (8, fun _ => none)) :: []) H5 locs5 := hN5
  refine cn_kept X (i := 0) (by decide) hl hN hT2 ⟨by decide, by decide⟩ (Nat.le_of_ble_eq_true rfl) (Nat.le_of_ble_eq_true rfl) (fun ad H locs ls hT hN hl => ?_)
  refine cn_kept X (i := 1) (by decide) hl hN hT ⟨by decide, by decide⟩ (Nat.le_of_ble_eq_true rfl) (Nat.le_of_ble_eq_true rfl) (fun ad H locs ls hT hN hl => ?_)
  refine cn_kept X (i := 2) (by decide) hl hN hT ⟨by decide, by decide⟩ (Nat.le_of_ble_eq_true rfl) (Nat.le_of_ble_eq_true rfl) (fun ad H locs ls hT hN hl => ?_)
  refine cn_kept X (i := 3) (by decide) hl hN hT ⟨by decide, by decide⟩ (Nat.le_of_ble_eq_true rfl) (Nat.le_of_ble_eq_true rfl) (fun ad H locs ls hT hN hl => ?_)
  refine cn_kept X (i := 4) (by decide) hl hN hT ⟨by decide, by decide⟩ (Nat.le_of_ble_eq_true rfl) (Nat.le_of_ble_eq_true rfl) (fun ad H locs ls hT hN hl => ?_)
  refine cn_kept X (i := 5) (by decide) hl hN hT ⟨by decide, by decide⟩ (Nat.le_of_ble_eq_true rfl) (Nat.le_of_ble_eq_true rfl) (fun ad H locs ls hT hN hl => ?_)
  refine cn_kept X (i := 6) (by decide) hl hN hT ⟨by decide, by decide⟩ (Nat.le_of_ble_eq_true rfl) (Nat.le_of_ble_eq_true rfl) (fun ad H locs ls hT hN hl => ?_)
  refine cn_kept X (i := 7) (by decide) hl hN hT ⟨by decide, by decide⟩ (Nat.le_of_ble_eq_true rfl) (Nat.le_of_ble_eq_true rfl) (fun ad H locs ls hT hN hl => ?_)
  refine lv_iload_n hx hb dK5_25 rfl (lv_at hl 0 rfl) ?_
  refine lv_bipush (v := nI 8) hx hb dK5_26 (by decide) ?_
  refine lv_icmp_ge (tgt := 50) hx hb dK5_28 (by decide) (fun _ => ?_) (fun c1 => absurd (Int32.le_refl _) c1)
  have hN : CNS D cI cW A s ad (cnP :: .inr (.inl (8, va_up (va_up (va_up (va_up (va_up (va_up (va_up (va_up (fun _ => (none : Option Nat)) 0 (some 2)) 1 (some 8)) 2 (some 14)) 3 (some 20)) 4 (some 26)) 5 (some 32)) 6 (some 38)) 7 (some 44))) :: (j_9.map (am_rc (fun i => i + 2)) ++ j_9.map (am_rc (fun i => i + 8)) ++ j_9.map (am_rc (fun i => i + 14)) ++ j_9.map (am_rc (fun i => i + 20)) ++ j_9.map (am_rc (fun i => i + 26)) ++ j_9.map (am_rc (fun i => i + 32)) ++ j_9.map (am_rc (fun i => i + 38)) ++ j_9.map (am_rc (fun i => i + 44)))) H locs := hN
  rw [kB_e] at hN
  have hN : CNS D cI cW A s ad j_4 H locs := hN
  exact cn_ret X hr hlk hN hT (Nat.le_of_ble_eq_true rfl) (Nat.le_of_ble_eq_true rfl) dK5_50
