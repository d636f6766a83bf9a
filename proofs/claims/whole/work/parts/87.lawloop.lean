/-! THE LAW's loop -/
theorem and63 (x : Int32) : ∃ k, k < 64 ∧ x &&& nI 63 = nI k := by
  refine ⟨(x &&& nI 63).toBitVec.toNat, ?_, ?_⟩
  · rw [Int32.toBitVec_and, BitVec.toNat_and]
    exact Nat.lt_of_le_of_lt Nat.and_le_right (by decide)
  · apply Int32.toBitVec_inj.mp
    show _ = BitVec.ofNat 32 _
    rw [BitVec.ofNat_toNat, BitVec.setWidth_eq]
theorem law_loop {p : Program} {l : Launch} {e : Env} {s : State} {m : MethodId} {below : List Frame} {meth : Method} {c : Code} {Q : State → Prop} {D : va_G} {ad : Nat → Nat} {cI cW : ClassId} {A : Nat → Prop} {b L : Nat} {xs : Nat → Int32} (C1 : LA p s m c D cI cW ad A b L xs) (hL : L ≤ 3584) (kend : ∀ (H : Heap) (locs : List Loc) (ls : Array Slot), va_S A s.heap H locs → W p l e room_1 s m #[Value.ref b] below meth c H locs 600000 7302250 Q (F0 m 1636 ls [])) : ∀ (n i : Nat) (a : Ab) (J : AH) (H : Heap) (locs : List Loc) (ls : Array Slot), i ≤ L + 7 → L + 8 ≤ i + n → LWS D cI cW ad A s a J H locs → lv_has ls 4 [(0, .ref b), (1, .ref (ad 0)), (2, .ref (ad 120)), (3, .int (nI i))] → W p l e room_1 s m #[Value.ref b] below meth c H locs 600000 7302250 Q (F0 m 18 ls []) := by
  intro n
  induction n with
  | zero => intro i a J H locs ls h1 h2; omega
  | succ n ih =>
    intro i a J H locs ls h1 h2 hW hl
    obtain ⟨hx, hb, hml, hown, hts, hK, hNW, hAx, hA, hX, hbl, hbA⟩ := id C1
    have hS := hW.2.2.2
    refine lv_iload_n hx hb dL_18 rfl (lv_at hl 3 rfl) ?_
    refine lv_aload_n hx hb dL_19 rfl (lv_at hl 0 rfl) ?_
    refine va_slen hx hb hX hbl hbA hS dL_20 ?_
    refine lv_bipush (v := nI 7) hx hb dL_21 (by decide) ?_
    refine lv_isub hx hb dL_23 ?_
    refine lv_icmp_gt (tgt := 1636) hx hb dL_24 (by decide) (fun _ => ?_) (fun c24 => ?_)
    · exact kend H locs ls hS
    have hi7 : i + 7 ≤ L := by
      apply Nat.not_lt.mp
      intro hlt
      apply c24
      rw [Int32.lt_iff_toInt_lt, Int32.toInt_sub, show (Int32.ofNat L).toInt = (L : Int) from Int32.toInt_ofNat_of_lt (by omega), show (nI i).toInt = (i : Int) from Int32.toInt_ofNat_of_lt (by omega), show (nI 7).toInt = 7 by decide]
      simp only [Int.bmod]
      omega
    have hin : ∀ d, d ≤ 6 → vp_in (nI i + nI d) L := fun d hd => by rw [nI_add]; exact vp_in_nI (by omega) (by omega)
    have h30 : ∀ (a2 : Ab) (J2 : AH) (H2 : Heap) (locs2 : List Loc), LWS D cI cW ad A s a2 J2 H2 locs2 → W p l e room_1 s m #[Value.ref b] below meth c H2 locs2 600000 7302250 Q (F0 m 1630 ls []) := fun a2 J2 H2 locs2 hW2 => by
      refine lv_iinc (v := nI (i + 7)) (k := 3) (lv' := [(3, .int (nI (i + 7))), (0, .ref b), (1, .ref (ad 0)), (2, .ref (ad 120))]) hx hb dL_1630 hl rfl (by rw [← nI_add]; rfl) (by decide) rfl (fun ls hl => ?_)
      refine lv_goto (tgt := 18) hx hb dL_1633 (by decide) ?_
      exact ih (i + 7) a2 J2 H2 locs2 ls (by omega) (by omega) hW2 (lv_sub hl [1, 2, 3, 0] rfl)
    refine lv_aload_n hx hb dL_27 rfl (lv_at hl 0 rfl) ?_
    refine lv_iload_n hx hb dL_28 rfl (lv_at hl 3 rfl) ?_
    refine va_sld hx hb hX hbl hbA hS (vp_in_nI (show i < L by omega) (by omega)) dL_29 ?_
    refine lv_bipush (v := nI 63) hx hb dL_30 (by decide) ?_
    refine lv_iand hx hb dL_32 ?_
    obtain ⟨k, hk, ek⟩ := and63 (xs (nI i).toNatClampNeg)
    rw [ek]
    by_cases c0 : k = 0
    · subst c0
      refine lv_tableIn (tgt := 236) hx hb dL_33 (by decide) (by decide) rfl (by decide) ?_
      exact law_c0 C1 hW hl hin h30
    by_cases c1 : k = 1
    · subst c1
      refine lv_tableIn (tgt := 259) hx hb dL_33 (by decide) (by decide) rfl (by decide) ?_
      exact law_c1 C1 hW hl hin h30
    by_cases c2 : k = 2
    · subst c2
      refine lv_tableIn (tgt := 272) hx hb dL_33 (by decide) (by decide) rfl (by decide) ?_
      exact law_c2 C1 hW hl hin h30
    by_cases c3 : k = 3
    · subst c3
      refine lv_tableIn (tgt := 305) hx hb dL_33 (by decide) (by decide) rfl (by decide) ?_
      exact law_c3 C1 hW hl hin h30
    by_cases c4 : k = 4
    · subst c4
      refine lv_tableIn (tgt := 338) hx hb dL_33 (by decide) (by decide) rfl (by decide) ?_
      exact law_c4 C1 hW hl hin h30
    by_cases c5 : k = 5
    · subst c5
      refine lv_tableIn (tgt := 381) hx hb dL_33 (by decide) (by decide) rfl (by decide) ?_
      exact law_c5 C1 hW hl hin h30
    by_cases c6 : k = 6
    · subst c6
      refine lv_tableIn (tgt := 414) hx hb dL_33 (by decide) (by decide) rfl (by decide) ?_
      exact law_c6 C1 hW hl hin h30
    by_cases c7 : k = 7
    · subst c7
      refine lv_tableIn (tgt := 437) hx hb dL_33 (by decide) (by decide) rfl (by decide) ?_
      exact law_c7 C1 hW hl hin h30
    by_cases c8 : k = 8
    · subst c8
      refine lv_tableIn (tgt := 460) hx hb dL_33 (by decide) (by decide) rfl (by decide) ?_
      exact law_c8 C1 hW hl hin h30
    by_cases c9 : k = 9
    · subst c9
      refine lv_tableIn (tgt := 493) hx hb dL_33 (by decide) (by decide) rfl (by decide) ?_
      exact law_c9 C1 hW hl hin h30
    by_cases c10 : k = 10
    · subst c10
      refine lv_tableIn (tgt := 506) hx hb dL_33 (by decide) (by decide) rfl (by decide) ?_
      exact law_c10 C1 hW hl hin h30
    by_cases c11 : k = 11
    · subst c11
      refine lv_tableIn (tgt := 559) hx hb dL_33 (by decide) (by decide) rfl (by decide) ?_
      exact law_c11 C1 hW hl hin h30
    by_cases c12 : k = 12
    · subst c12
      refine lv_tableIn (tgt := 602) hx hb dL_33 (by decide) (by decide) rfl (by decide) ?_
      exact law_c12 C1 hW hl hin h30
    by_cases c13 : k = 13
    · subst c13
      refine lv_tableIn (tgt := 635) hx hb dL_33 (by decide) (by decide) rfl (by decide) ?_
      exact law_c13 C1 hW hl hin h30
    by_cases c14 : k = 14
    · subst c14
      refine lv_tableIn (tgt := 668) hx hb dL_33 (by decide) (by decide) rfl (by decide) ?_
      exact law_c14 C1 hW hl hin h30
    by_cases c15 : k = 15
    · subst c15
      refine lv_tableIn (tgt := 701) hx hb dL_33 (by decide) (by decide) rfl (by decide) ?_
      exact law_c15 C1 hW hl hin h30
    by_cases c16 : k = 16
    · subst c16
      refine lv_tableIn (tgt := 724) hx hb dL_33 (by decide) (by decide) rfl (by decide) ?_
      exact law_c16 C1 hW hl hin h30
    by_cases c17 : k = 17
    · subst c17
      refine lv_tableIn (tgt := 747) hx hb dL_33 (by decide) (by decide) rfl (by decide) ?_
      exact law_c17 C1 hW hl hin h30
    by_cases c18 : k = 18
    · subst c18
      refine lv_tableIn (tgt := 800) hx hb dL_33 (by decide) (by decide) rfl (by decide) ?_
      exact law_c18 C1 hW hl hin h30
    by_cases c19 : k = 19
    · subst c19
      refine lv_tableIn (tgt := 833) hx hb dL_33 (by decide) (by decide) rfl (by decide) ?_
      exact law_c19 C1 hW hl hin h30
    by_cases c20 : k = 20
    · subst c20
      refine lv_tableIn (tgt := 866) hx hb dL_33 (by decide) (by decide) rfl (by decide) ?_
      exact law_c20 C1 hW hl hin h30
    by_cases c21 : k = 21
    · subst c21
      refine lv_tableIn (tgt := 899) hx hb dL_33 (by decide) (by decide) rfl (by decide) ?_
      exact law_c21 C1 hW hl hin h30
    by_cases c22 : k = 22
    · subst c22
      refine lv_tableIn (tgt := 922) hx hb dL_33 (by decide) (by decide) rfl (by decide) ?_
      exact law_c22 C1 hW hl hin h30
    by_cases c23 : k = 23
    · subst c23
      refine lv_tableIn (tgt := 955) hx hb dL_33 (by decide) (by decide) rfl (by decide) ?_
      exact law_c23 C1 hW hl hin h30
    by_cases c24 : k = 24
    · subst c24
      refine lv_tableIn (tgt := 978) hx hb dL_33 (by decide) (by decide) rfl (by decide) ?_
      exact law_c24 C1 hW hl hin h30
    by_cases c25 : k = 25
    · subst c25
      refine lv_tableIn (tgt := 1011) hx hb dL_33 (by decide) (by decide) rfl (by decide) ?_
      exact law_c25 C1 hW hl hin h30
    by_cases c26 : k = 26
    · subst c26
      refine lv_tableIn (tgt := 1087) hx hb dL_33 (by decide) (by decide) rfl (by decide) ?_
      exact law_c26 C1 hW hl hin h30
    by_cases c27 : k = 27
    · subst c27
      refine lv_tableIn (tgt := 1110) hx hb dL_33 (by decide) (by decide) rfl (by decide) ?_
      exact law_c27 C1 hW hl hin h30
    by_cases c28 : k = 28
    · subst c28
      refine lv_tableIn (tgt := 1143) hx hb dL_33 (by decide) (by decide) rfl (by decide) ?_
      exact law_c28 C1 hW hl hin h30
    by_cases c29 : k = 29
    · subst c29
      refine lv_tableIn (tgt := 1176) hx hb dL_33 (by decide) (by decide) rfl (by decide) ?_
      exact law_c29 C1 hW hl hin h30
    by_cases c30 : k = 30
    · subst c30
      refine lv_tableIn (tgt := 1189) hx hb dL_33 (by decide) (by decide) rfl (by decide) ?_
      exact law_c30 C1 hW hl hin h30
    by_cases c31 : k = 31
    · subst c31
      refine lv_tableIn (tgt := 1222) hx hb dL_33 (by decide) (by decide) rfl (by decide) ?_
      exact law_c31 C1 hW hl hin h30
    by_cases c32 : k = 32
    · subst c32
      refine lv_tableIn (tgt := 1265) hx hb dL_33 (by decide) (by decide) rfl (by decide) ?_
      exact law_c32 C1 hW hl hin h30
    by_cases c33 : k = 33
    · subst c33
      refine lv_tableIn (tgt := 1288) hx hb dL_33 (by decide) (by decide) rfl (by decide) ?_
      exact law_c33 C1 hW hl hin h30
    by_cases c34 : k = 34
    · subst c34
      refine lv_tableIn (tgt := 1321) hx hb dL_33 (by decide) (by decide) rfl (by decide) ?_
      exact law_c34 C1 hW hl hin h30
    by_cases c35 : k = 35
    · subst c35
      refine lv_tableIn (tgt := 1354) hx hb dL_33 (by decide) (by decide) rfl (by decide) ?_
      exact law_c35 C1 hW hl hin h30
    by_cases c36 : k = 36
    · subst c36
      refine lv_tableIn (tgt := 1397) hx hb dL_33 (by decide) (by decide) rfl (by decide) ?_
      exact law_c36 C1 hW hl hin h30
    by_cases c37 : k = 37
    · subst c37
      refine lv_tableIn (tgt := 1420) hx hb dL_33 (by decide) (by decide) rfl (by decide) ?_
      exact law_c37 C1 hW hl hin h30
    by_cases c38 : k = 38
    · subst c38
      refine lv_tableIn (tgt := 1443) hx hb dL_33 (by decide) (by decide) rfl (by decide) ?_
      exact law_c38 C1 hW hl hin h30
    by_cases c39 : k = 39
    · subst c39
      refine lv_tableIn (tgt := 1466) hx hb dL_33 (by decide) (by decide) rfl (by decide) ?_
      exact law_c39 C1 hW hl hin h30
    by_cases c40 : k = 40
    · subst c40
      refine lv_tableIn (tgt := 1489) hx hb dL_33 (by decide) (by decide) rfl (by decide) ?_
      exact law_c40 C1 hW hl hin h30
    by_cases c41 : k = 41
    · subst c41
      refine lv_tableIn (tgt := 1512) hx hb dL_33 (by decide) (by decide) rfl (by decide) ?_
      exact law_c41 C1 hW hl hin h30
    by_cases c42 : k = 42
    · subst c42
      refine lv_tableIn (tgt := 1525) hx hb dL_33 (by decide) (by decide) rfl (by decide) ?_
      exact law_c42 C1 hW hl hin h30
    by_cases c43 : k = 43
    · subst c43
      refine lv_tableIn (tgt := 1538) hx hb dL_33 (by decide) (by decide) rfl (by decide) ?_
      exact law_c43 C1 hW hl hin h30
    by_cases c44 : k = 44
    · subst c44
      refine lv_tableIn (tgt := 1581) hx hb dL_33 (by decide) (by decide) rfl (by decide) ?_
      exact law_c44 C1 hW hl hin h30
    by_cases c45 : k = 45
    · subst c45
      refine lv_tableIn (tgt := 1594) hx hb dL_33 (by decide) (by decide) rfl (by decide) ?_
      exact law_c45 C1 hW hl hin h30
    by_cases c46 : k = 46
    · subst c46
      refine lv_tableIn (tgt := 1607) hx hb dL_33 (by decide) (by decide) rfl (by decide) ?_
      exact law_c46 C1 hW hl hin h30
    · refine lv_tableOut (tgt := 1630) hx hb dL_33 (Or.inr (by rw [show (nI k).toInt = (k : Int) from Int32.toInt_ofNat_of_lt (by omega)]; omega)) (by decide) ?_
      exact h30 a J H locs hW
