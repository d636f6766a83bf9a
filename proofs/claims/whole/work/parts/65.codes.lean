/-! SPECS of the model: codes, secret -/
theorem ushr_lN {q k : Nat} (hq : q < 2 ^ 64) (hk : k < 64) : ushrL (lN q) k = lN (q / 2 ^ k) := by
  have e : ∀ k, k < 64 → ((nI k).toInt64.toUInt64 &&& Int64.toUInt64 63).toBitVec % 64 = BitVec.ofNat 64 k := by decide +kernel
  apply Int64.toBitVec_inj.mp
  show (UInt64.toBitVec ((lN q).toUInt64 >>> ((nI k).toInt64.toUInt64 &&& Int64.toUInt64 63))) = BitVec.ofNat 64 (q / 2 ^ k)
  rw [UInt64.toBitVec_shiftRight, e k hk]
  apply BitVec.eq_of_toNat_eq
  rw [BitVec.ushiftRight_eq', BitVec.toNat_ushiftRight, BitVec.toNat_ofNat, BitVec.toNat_ofNat, Nat.mod_eq_of_lt (show k < 2 ^ 64 by omega), Nat.shiftRight_eq_div_pow]
  show (BitVec.ofNat 64 q).toNat / 2 ^ k = _
  rw [BitVec.toNat_ofNat, Nat.mod_eq_of_lt hq]
  rw [Nat.mod_eq_of_lt (Nat.lt_of_le_of_lt (Nat.div_le_self _ _) hq)]
theorem and_lN (a b : Nat) : lN a &&& lN b = lN (a &&& b) := by
  apply Int64.toBitVec_inj.mp
  rw [Int64.toBitVec_and]
  show BitVec.ofNat 64 a &&& BitVec.ofNat 64 b = BitVec.ofNat 64 (a &&& b)
  apply BitVec.eq_of_toNat_eq
  rw [BitVec.toNat_and, BitVec.toNat_ofNat, BitVec.toNat_ofNat, BitVec.toNat_ofNat, Nat.and_mod_two_pow]
theorem or_lN (a b : Nat) : lN a ||| lN b = lN (a ||| b) := by
  apply Int64.toBitVec_inj.mp
  rw [Int64.toBitVec_or]
  show BitVec.ofNat 64 a ||| BitVec.ofNat 64 b = BitVec.ofNat 64 (a ||| b)
  apply BitVec.eq_of_toNat_eq
  rw [BitVec.toNat_or, BitVec.toNat_ofNat, BitVec.toNat_ofNat, BitVec.toNat_ofNat, Nat.or_mod_two_pow]
theorem and127 (r : Nat) : nI r &&& nI 127 = nI (r % 128) := by
  apply bitN_ext
  intro j hj
  rw [bitN_and, bitN_nI _ _ hj, bitN_nI _ _ hj, bitN_nI _ _ hj, show 128 = 2 ^ 7 by decide, Nat.testBit_mod_two_pow, Bool.and_comm]
  have : ∀ j, j < 32 → Nat.testBit 127 j = decide (j < 7) := by decide +kernel
  rw [this j hj]
theorem mk85 : mkB 85 8 = 6148914691236517205 := by decide +kernel
theorem mk51 : mkB 51 8 = 3689348814741910323 := by decide +kernel
theorem mk15 : mkB 15 8 = 1085102592571150095 := by decide +kernel
theorem p64 : 256 ^ 8 = 2 ^ 64 := by decide +kernel
theorem fBl_lN {q : Nat} (h : q < 2 ^ 61) : fBl (lN q) = nI (pcN 64 q) := by
  have hq : q < 2 ^ 64 := Nat.lt_of_lt_of_le h (Nat.pow_le_pow_right (by omega) (by omega))
  obtain ⟨b1, b2, b3⟩ := PB6_sum (q := q) (by rw [p64]; exact hq)
  have f1 : fBl1 (lN q) = lN (s1B (mkB 85 8) q) := by
    unfold fBl1 s1B
    rw [ushr_lN hq (by decide), mk85, show Int64.ofNat 6148914691236517205 = lN 6148914691236517205 from rfl, and_lN, Nat.pow_one]
    exact lN_sub (Nat.le_trans Nat.and_le_left (Nat.div_le_self _ _))
  have hs1 : s1B (mkB 85 8) q < 2 ^ 64 := Nat.lt_of_le_of_lt (Nat.sub_le _ _) hq
  have f2 : fBl2 (lN (s1B (mkB 85 8) q)) = lN (s2B (mkB 51 8) (s1B (mkB 85 8) q)) := by
    generalize s1B (mkB 85 8) q = z at hs1 ⊢
    unfold fBl2 s2B
    rw [ushr_lN hs1 (by decide), mk51, show Int64.ofNat 3689348814741910323 = lN 3689348814741910323 from rfl, and_lN, and_lN, lN_add]
  have hs2 : s2B (mkB 51 8) (s1B (mkB 85 8) q) < 2 ^ 64 := by
    unfold s2B
    have h1 : (s1B (mkB 85 8) q) &&& mkB 51 8 ≤ mkB 51 8 := Nat.and_le_right
    have h2 : (s1B (mkB 85 8) q / 4) &&& mkB 51 8 ≤ mkB 51 8 := Nat.and_le_right
    rw [mk51] at h1 h2 ⊢
    omega
  have f3 : fBl3 (lN (s2B (mkB 51 8) (s1B (mkB 85 8) q))) = lN (PB q) := by
    unfold PB
    generalize s2B (mkB 51 8) (s1B (mkB 85 8) q) = z at hs2 ⊢
    unfold fBl3 s3B
    rw [ushr_lN hs2 (by decide), mk15, show Int64.ofNat 1085102592571150095 = lN 1085102592571150095 from rfl, lN_add, and_lN]
  unfold fBl
  rw [f1, f2, f3]
  rw [← b1]
  unfold PB6 at b2 ⊢
  generalize PB q = z at b2 b3 ⊢
  have h4 : fBl4 (lN z) = lN (z + z / 256) := by
    unfold fBl4
    rw [ushr_lN (by omega) (by decide), lN_add]
  rw [h4]
  generalize z + z / 256 = y at b2 ⊢
  have h5 : fBl5 (lN y) = lN (y + y / 65536) := by
    unfold fBl5
    rw [ushr_lN (by omega) (by decide), lN_add]
  rw [h5]
  generalize y + y / 65536 = x at b2 ⊢
  have h6 : fBl6 (lN x) = lN (x + x / 4294967296) := by
    unfold fBl6
    rw [ushr_lN (by omega) (by decide), lN_add]
  rw [h6, lN_i, and127]
theorem shl_lN {g : Nat} (h : g ≤ 60) : Int64.ofNat 1 <<< ((nI g).toInt64 &&& 63) = lN (2 ^ g) := by
  have : ∀ g, g < 61 → Int64.ofNat 1 <<< ((nI g).toInt64 &&& 63) = lN (2 ^ g) := by decide +kernel
  exact this g (by omega)
theorem sh64 : ∀ t, t < 61 → (((nI t).toInt64 &&& 63).toBitVec.smod 64) = BitVec.ofNat 64 t := by decide +kernel
theorem shr_bit {s : Int64} {t : Nat} (h : t ≤ 60) : ((s >>> ((nI t).toInt64 &&& 63)) &&& Int64.ofNat 1 = Int64.ofNat 1) ↔ s.toBitVec.getLsbD t = true := by
  rw [← Int64.toBitVec_inj, Int64.toBitVec_and, Int64.toBitVec_shiftRight, sh64 t (by omega)]
  have e1 : (Int64.ofNat 1).toBitVec = BitVec.twoPow 64 0 := by decide
  have e2 : s.toBitVec.sshiftRight' (BitVec.ofNat 64 t) = s.toBitVec.sshiftRight t := by
    rw [BitVec.sshiftRight_eq', BitVec.toNat_ofNat, Nat.mod_eq_of_lt (by omega)]
  rw [e1, e2, BitVec.and_twoPow, BitVec.getLsbD_sshiftRight]
  simp only [Nat.add_zero, show t < 64 by omega, ↓reduceIte, show ¬ (64 ≤ 0) by decide, decide_false, Bool.not_false, Bool.true_and]
  cases hb : s.toBitVec.getLsbD t
  · simp only [Bool.false_eq_true, ↓reduceIte, iff_false]
    have : ¬ 0#64 = BitVec.twoPow 64 0 := by decide
    exact this
  · simp
theorem lN_bit {q t : Nat} (h : t < 64) : (lN q).toBitVec.getLsbD t = q.testBit t := by
  show (BitVec.ofNat 64 q).getLsbD t = _
  rw [BitVec.getLsbD_ofNat]
  simp [h]
theorem cmp_0 {x y : Int64} : lg_cmp x y = 0 ↔ x = y := by
  unfold lg_cmp
  by_cases h1 : x > y
  · rw [if_pos h1]
    exact ⟨fun z => absurd z (by decide), fun z => absurd h1 (by rw [z]; exact Int64.lt_irrefl)⟩
  · rw [if_neg h1]
    by_cases h2 : x = y
    · rw [if_pos h2]; simp [h2]
    · rw [if_neg h2]
      exact ⟨fun z => absurd z (by decide), fun z => absurd z h2⟩
theorem ml_cod {m : MS} {w : WS} {n : Nat} {A P : Nat → Nat} {t x : Nat} {y : Int32} (hf : wFk w n) (ht : t < n) (hx : x < n) (hy : y = Int32.ofInt (-9) ∨ ∃ z, z < n ∧ y = nI z) {K : Option Value → AH → Prop} (h : mX m w n A P) : ∀ (k i : Nat) (s : S3) (q : Nat) (hq : q < 2 ^ 61) (hi0 : 1 ≤ i), i + k = 61 → (∀ s2 : S3, K (some (.int (fBl (itr (stnF w n (P t) x y) k i (lN q))))) (mC m s2.1 s2.2.2)) → am_E i_X12_codesOf 9 [some (.ref 0), some (.int (nI t)), some (.int (nI x)), some (.int y), some (.long (lN q)), none, some (.int (nI (pcN 64 q))), some (.int (nI i))] [] (mC m s.1 s.2.2) K := by
  intro k
  induction k with
  | zero =>
    intro i s q hq hi0 hi hK
    obtain rfl : i = 61 := by omega
    refine b_X12_codesOf [9] ?_
    conv => whnf
    refine ⟨fun c13 => ?_, fun c13 => absurd (nI_lt (by omega) (by omega)) c13⟩
    refine b_X12_codesOf [9] ?_
    conv => whnf
    have h9 := hK s
    rw [show itr (stnF w n (P t) x y) 0 61 (lN q) = lN q from rfl, fBl_lN hq] at h9
    exact h9
  | succ k ih =>
    intro i s q hq hi0 hi hK
    have hn8 := h.n8
    refine b_X12_codesOf [9] ?_
    conv => whnf
    refine ⟨fun c13 => absurd c13 (fun z => absurd ((nI_ltI (by omega) (by omega)).mp z) (by omega)), fun c13 => ?_⟩
    conv => whnf
    refine m_fb (m := m) (s := s) h ht (v_b (by omega) (by omega)) (fun s2 hs2 hb2 => ?_)
    obtain ⟨g, hg, eg⟩ := blw60 h.2 hf (h.P ht).1 (show i ≤ 60 by omega) (show x < 8 by omega)
    have eg2 : s2.1 x = nI g := by rw [hs2.1 x (by omega)]; exact eg
    refine b_X12_codesOf [9] ?_
    conv => whnf
    refine ⟨fun c27 => ?_, fun c27 => ?_⟩
    · conv => whnf
      refine ⟨(vp_in_nI (show x < 8 by omega) (by decide)), ?_⟩
      conv => whnf
      rw [nI_clamp (show x < 2 ^ 31 by omega)]
      refine ⟨fun c36 => ?_, fun c36 => ?_⟩
      · refine b_X12_codesOf [9] ?_
        conv => whnf
        have e4 : stnF w n (P t) x y i (lN q) = lN q := by
          unfold stnF
          rw [← hs2.2]
          rw [if_pos c27]
          exact if_neg (fun z => absurd ((hb2.g (by omega)).mp z) (by rw [c36]; decide))
        simp only [itr, e4] at hK
        have h2 := ih (i + 1) s2 (q) hq (by omega) (by omega) hK
        rw [← nI_add i 1] at h2
        exact h2
      · conv => whnf
        refine ⟨fun c40 => ?_, fun c40 => ?_⟩
        · refine b_X12_codesOf [9] ?_
          conv => whnf
          refine ⟨(vp_in_nI (show x < 8 by omega) (by decide)), ?_⟩
          conv => whnf
          rw [nI_clamp (show x < 2 ^ 31 by omega), eg2]
          refine ⟨fun c65 => ?_, fun c65 => ?_⟩
          · conv => whnf
            refine b_X12_codesOf [9] ?_
            conv => whnf
            have hxh : fCut s2.2.1 (nI x) = true := (hb2.g (by omega)).mpr (Int32.lt_of_le_of_ne (hb2.2.1 x (by omega)) (fun z => c36 z.symm))
            have hyn : y = Int32.ofInt (-9) := hy.resolve_right (fun ⟨z, hz, ez⟩ => nI_pos (show z < 2 ^ 31 by omega) (by rw [← ez]; exact c40))
            have hd : ¬ fCut s2.2.1 y = true := by rw [hyn]; unfold fCut; rw [decide_eq_true (by decide)]; simp
            have e5 : stnF w n (P t) x y i (lN q) = lN (q ||| 2 ^ g) := by
              unfold stnF
              rw [← hs2.2, if_pos c27, if_pos hxh, if_neg hd, eg, shl_lN hg, or_lN]
            have hb9 : q.testBit g = true := by
              have := (shr_bit (s := lN q) hg).mp (cmp_0.mp c65)
              rwa [lN_bit (by omega)] at this
            have e6 : q ||| 2 ^ g = q := by
              apply Nat.eq_of_testBit_eq
              intro j
              rw [Nat.testBit_or, Nat.testBit_two_pow]
              by_cases z : g = j
              · subst z; rw [hb9]; rfl
              · rw [decide_eq_false z, Bool.or_false]
            rw [e6] at e5
            simp only [itr, e5] at hK
            have h2 := ih (i + 1) s2 (q) hq (by omega) (by omega) hK
            rw [← nI_add i 1] at h2
            exact h2
          · refine b_X12_codesOf [9] ?_
            conv => whnf
            refine ⟨(vp_in_nI (show x < 8 by omega) (by decide)), ?_⟩
            conv => whnf
            rw [nI_clamp (show x < 2 ^ 31 by omega), eg2]
            have hxh : fCut s2.2.1 (nI x) = true := (hb2.g (by omega)).mpr (Int32.lt_of_le_of_ne (hb2.2.1 x (by omega)) (fun z => c36 z.symm))
            have hyn : y = Int32.ofInt (-9) := hy.resolve_right (fun ⟨z, hz, ez⟩ => nI_pos (show z < 2 ^ 31 by omega) (by rw [← ez]; exact c40))
            have hd : ¬ fCut s2.2.1 y = true := by rw [hyn]; unfold fCut; rw [decide_eq_true (by decide)]; simp
            have e5 : stnF w n (P t) x y i (lN q) = lN (q ||| 2 ^ g) := by
              unfold stnF
              rw [← hs2.2, if_pos c27, if_pos hxh, if_neg hd, eg, shl_lN hg, or_lN]
            have hb9 : q.testBit g = false := by
              have h7 : ¬ (lN q).toBitVec.getLsbD g = true := fun z => c65 (cmp_0.mpr ((shr_bit hg).mpr z))
              rw [lN_bit (by omega)] at h7
              exact Bool.not_eq_true _ |>.mp h7
            simp only [itr, e5] at hK
            rw [shl_lN hg, or_lN]
            have h2 := ih (i + 1) s2 (q ||| 2 ^ g) (Nat.or_lt_two_pow hq (Nat.pow_lt_pow_right (by decide) (by omega))) (by omega) (by omega) hK
            rw [← nI_add i 1, show nI (pcN 64 (q ||| 2 ^ g)) = nI (pcN 64 q) + nI 1 from by rw [nI_add, pcN_or hb9, if_pos (by omega)]] at h2
            exact h2
        · conv => whnf
          obtain ⟨z, hz, ez⟩ := hy.resolve_left (fun z => c40 (by rw [z]; decide))
          subst ez
          refine ⟨(vp_in_nI (show z < 8 by omega) (by decide)), ?_⟩
          conv => whnf
          rw [nI_clamp (show z < 2 ^ 31 by omega)]
          refine ⟨fun c49 => ?_, fun c49 => ?_⟩
          · refine b_X12_codesOf [9] ?_
            conv => whnf
            have hxh : fCut s2.2.1 (nI x) = true := (hb2.g (by omega)).mpr (Int32.lt_of_le_of_ne (hb2.2.1 x (by omega)) (fun z => c36 z.symm))
            have hz2 : fCut s2.2.1 (nI z) = true := (hb2.g (by omega)).mpr c49
            have e4 : stnF w n (P t) x (nI z) i (lN q) = lN q := by
              unfold stnF
              rw [← hs2.2]
              rw [if_pos c27, if_pos hxh, if_pos hz2]
            simp only [itr, e4] at hK
            have h2 := ih (i + 1) s2 (q) hq (by omega) (by omega) hK
            rw [← nI_add i 1] at h2
            exact h2
          · conv => whnf
            refine ⟨(vp_in_nI (show x < 8 by omega) (by decide)), ?_⟩
            conv => whnf
            rw [nI_clamp (show x < 2 ^ 31 by omega), eg2]
            refine ⟨fun c65 => ?_, fun c65 => ?_⟩
            · conv => whnf
              refine b_X12_codesOf [9] ?_
              conv => whnf
              have hxh : fCut s2.2.1 (nI x) = true := (hb2.g (by omega)).mpr (Int32.lt_of_le_of_ne (hb2.2.1 x (by omega)) (fun z => c36 z.symm))
              have hd : ¬ fCut s2.2.1 (nI z) = true := fun y9 => c49 ((hb2.g (by omega)).mp y9)
              have e5 : stnF w n (P t) x (nI z) i (lN q) = lN (q ||| 2 ^ g) := by
                unfold stnF
                rw [← hs2.2, if_pos c27, if_pos hxh, if_neg hd, eg, shl_lN hg, or_lN]
              have hb9 : q.testBit g = true := by
                have := (shr_bit (s := lN q) hg).mp (cmp_0.mp c65)
                rwa [lN_bit (by omega)] at this
              have e6 : q ||| 2 ^ g = q := by
                apply Nat.eq_of_testBit_eq
                intro j
                rw [Nat.testBit_or, Nat.testBit_two_pow]
                by_cases z : g = j
                · subst z; rw [hb9]; rfl
                · rw [decide_eq_false z, Bool.or_false]
              rw [e6] at e5
              simp only [itr, e5] at hK
              have h2 := ih (i + 1) s2 (q) hq (by omega) (by omega) hK
              rw [← nI_add i 1] at h2
              exact h2
            · refine b_X12_codesOf [9] ?_
              conv => whnf
              refine ⟨(vp_in_nI (show x < 8 by omega) (by decide)), ?_⟩
              conv => whnf
              rw [nI_clamp (show x < 2 ^ 31 by omega), eg2]
              have hxh : fCut s2.2.1 (nI x) = true := (hb2.g (by omega)).mpr (Int32.lt_of_le_of_ne (hb2.2.1 x (by omega)) (fun z => c36 z.symm))
              have hd : ¬ fCut s2.2.1 (nI z) = true := fun y9 => c49 ((hb2.g (by omega)).mp y9)
              have e5 : stnF w n (P t) x (nI z) i (lN q) = lN (q ||| 2 ^ g) := by
                unfold stnF
                rw [← hs2.2, if_pos c27, if_pos hxh, if_neg hd, eg, shl_lN hg, or_lN]
              have hb9 : q.testBit g = false := by
                have h7 : ¬ (lN q).toBitVec.getLsbD g = true := fun z => c65 (cmp_0.mpr ((shr_bit hg).mpr z))
                rw [lN_bit (by omega)] at h7
                exact Bool.not_eq_true _ |>.mp h7
              simp only [itr, e5] at hK
              rw [shl_lN hg, or_lN]
              have h2 := ih (i + 1) s2 (q ||| 2 ^ g) (Nat.or_lt_two_pow hq (Nat.pow_lt_pow_right (by decide) (by omega))) (by omega) (by omega) hK
              rw [← nI_add i 1, show nI (pcN 64 (q ||| 2 ^ g)) = nI (pcN 64 q) + nI 1 from by rw [nI_add, pcN_or hb9, if_pos (by omega)]] at h2
              exact h2
    · refine b_X12_codesOf [9] ?_
      conv => whnf
      have e4 : stnF w n (P t) x y i (lN q) = lN q := by
        unfold stnF
        rw [← hs2.2]
        exact if_neg c27
      simp only [itr, e4] at hK
      have h2 := ih (i + 1) s2 (q) hq (by omega) (by omega) hK
      rw [← nI_add i 1] at h2
      exact h2
theorem m_cof {m : MS} {w : WS} {n : Nat} {A P : Nat → Nat} {s : S3} {t x : Nat} {y : Int32} (h : mX m w n A P) (hf : wFk w n) (ht : t < n) (hx : x < n) (hy : y = Int32.ofInt (-9) ∨ ∃ z, z < n ∧ y = nI z) {K : Option Value → AH → Prop} (hK : ∀ s2 : S3, K (some (.int (fBl (itr (stnF w n (P t) x y) 60 1 (Int64.ofNat 0))))) (mC m s2.1 s2.2.2)) : am_M i_X12_codesOf [.ref 0, .int (nI t), .int (nI x), .int y] (mC m s.1 s.2.2) K := by
  refine e_X12_codesOf [9] ?_
  conv => whnf
  have h2 := ml_cod hf ht hx hy h 60 1 s 0 (by decide) (by omega) (by omega) hK
  rw [show nI (pcN 64 0) = nI 0 from by decide] at h2
  exact h2
theorem m_codes {a : Ab} {m : MS} {s : S3} {x y : Int32} (hI : Inv a) (hM : MR a m)  {K : Option Value → AH → Prop} (hK : ∀ m2 (s2 : S3), MR (qB a (fFirst (fNoTh ((a.1 0).1 0) x) (fNoTh ((a.1 0).1 0) y))) m2 → K (some (.int (qA (fFirst (fNoTh ((a.1 0).1 0) x) (fNoTh ((a.1 0).1 0) y)) (fBl (itr (stnF (a.1 0) (nO (a.1 0)) ((plW (a.1 0)) x.toNatClampNeg) y.toNatClampNeg (Int32.ofInt (-9))) 60 1 (Int64.ofNat 0)))))) (mC m2 s2.1 s2.2.2)) : am_M i_X12_codes [.ref 0, .int x, .int y] (mC m s.1 s.2.2) K := by
  have h := hM.x hI
  have hn := hI.n
  have hn8 := hI.n8
  refine e_X12_codes [] ?_
  conv => whnf
  refine m_n2 hM ?_
  refine b_X12_codes [] ?_
  conv => whnf
  refine ⟨fun c8 => ?_, fun c8 => ?_⟩
  · refine b_X12_codes [] ?_
    conv => whnf
    have r0 : (fFirst (fNoTh ((a.1 0).1 0) x) (fNoTh ((a.1 0).1 0) y)) = 0 := c8
    rw [qA_0 r0, qB_0 r0] at hK
    obtain ⟨r1a, r1b⟩ := fFirst_0 r0
    obtain ⟨x_, hx, rfl⟩ := fNoTh_0 (n := nO (a.1 0)) (by omega) (by rw [← hn]; exact r1a)
    have ex : (nI x_).toNatClampNeg = x_ := nI_clamp (by omega)
    try rw [ex] at hK
    obtain ⟨y_, hy, rfl⟩ := fNoTh_0 (n := nO (a.1 0)) (by omega) (by rw [← hn]; exact r1b)
    have ey : (nI y_).toNatClampNeg = y_ := nI_clamp (by omega)
    try rw [ey] at hK
    refine m_cof h hI.fk hx hy (Or.inl rfl) (fun s2 => ?_)
    refine b_X12_codes [] ?_
    conv => whnf
    exact hK m s2 hM
  · conv => whnf
    refine m_no (x := (fFirst (fNoTh ((a.1 0).1 0) x) (fNoTh ((a.1 0).1 0) y))) (by first | (unfold rfs; decide) | exact fNoBlow_r (by assumption) | exact fFirst_r fNoTh_r fNoTh_r (by assumption) | exact fFirst_r fBelow_r fAbove_r (by assumption)) ?_
    refine b_X12_codes [] ?_
    conv => whnf
    refine b_X12_codes [] ?_
    conv => whnf
    have e0 : (fFirst (fNoTh ((a.1 0).1 0) x) (fNoTh ((a.1 0).1 0) y)) = (fFirst (fNoTh ((a.1 0).1 0) x) (fNoTh ((a.1 0).1 0) y)) := rfl
    rw [e0, qA_n (rfs_n (by first | (unfold rfs; decide) | exact fNoBlow_r (by assumption) | exact fFirst_r fNoTh_r fNoTh_r (by assumption) | exact fFirst_r fBelow_r fAbove_r (by assumption)))] at hK
    exact hK _ s (hM.bump (by first | (unfold rfs; decide) | exact fNoBlow_r (by assumption) | exact fFirst_r fNoTh_r fNoTh_r (by assumption) | exact fFirst_r fBelow_r fAbove_r (by assumption)))
theorem sec_n {r x y z v : Int32} (h : r = v) (hv : ¬ v = 0) : fSec r x y z = v := by unfold fSec; rw [if_neg (by rw [h]; exact hv), h]
theorem sec_y {r x y z : Int32} (h : r = 0) (c : z = y) : fSec r x y z = Int32.ofInt (-3) := by unfold fSec; rw [if_pos h, if_pos c]
theorem sec_x {r x y z : Int32} (h : r = 0) (c : ¬ z = y) (d : z = x) : fSec r x y z = Int32.ofInt (-3) := by unfold fSec; rw [if_pos h, if_neg c, if_pos d]
theorem sec_0 {r x y z : Int32} (h : r = 0) (c : ¬ z = y) (d : ¬ z = x) : fSec r x y z = 0 := by unfold fSec; rw [if_pos h, if_neg c, if_neg d, h]
theorem m_secret {a : Ab} {m : MS} {s : S3} {x y z : Int32} (hI : Inv a) (hM : MR a m) {K : Option Value → AH → Prop} (hK : ∀ m2 (s2 : S3), MR (qB a (fSec (fFirst (fFirst (fNoTh ((a.1 0).1 0) x) (fNoTh ((a.1 0).1 0) y)) (fNoTh ((a.1 0).1 0) z)) x y z)) m2 → K (some (.int (qA (fSec (fFirst (fFirst (fNoTh ((a.1 0).1 0) x) (fNoTh ((a.1 0).1 0) y)) (fNoTh ((a.1 0).1 0) z)) x y z) (fBl (itr (stnF (a.1 0) (nO (a.1 0)) ((plW (a.1 0)) x.toNatClampNeg) y.toNatClampNeg z) 60 1 (Int64.ofNat 0)))))) (mC m2 s2.1 s2.2.2)) : am_M i_X12_secret [.ref 0, .int x, .int y, .int z] (mC m s.1 s.2.2) K := by
  have h := hM.x hI
  have hn := hI.n
  have hn8 := hI.n8
  refine e_X12_secret [] ?_
  conv => whnf
  refine m_n2 hM ?_
  refine b_X12_secret [] ?_
  conv => whnf
  refine ⟨fun c10 => ?_, fun c10 => ?_⟩
  · conv => whnf
    refine m_isTR hM ?_
    refine b_X12_secret [] ?_
    conv => whnf
    refine ⟨fun c18 => ?_, fun c18 => ?_⟩
    · conv => whnf
      refine ⟨fun c26 => absurd c26 (by decide), fun c26 => ?_⟩
      refine b_X12_secret [] ?_
      conv => whnf
      refine ⟨fun c45 => absurd c45 (by decide), fun c45 => ?_⟩
      conv => whnf
      refine m_no (x := (Int32.ofInt (-1))) (by first | (unfold rfs; decide) | exact fNoBlow_r (by assumption) | exact fFirst_r fNoTh_r fNoTh_r (by assumption) | exact fFirst_r fBelow_r fAbove_r (by assumption)) ?_
      refine b_X12_secret [] ?_
      conv => whnf
      refine b_X12_secret [] ?_
      conv => whnf
      have e0 : (fSec (fFirst (fFirst (fNoTh ((a.1 0).1 0) x) (fNoTh ((a.1 0).1 0) y)) (fNoTh ((a.1 0).1 0) z)) x y z) = (Int32.ofInt (-1)) := (sec_n (fF0 c10 (th_T c18)) (rfs_n (by first | (unfold rfs; decide) | exact fNoBlow_r (by assumption) | exact fFirst_r fNoTh_r fNoTh_r (by assumption) | exact fFirst_r fBelow_r fAbove_r (by assumption))))
      rw [e0, qA_n (rfs_n (by first | (unfold rfs; decide) | exact fNoBlow_r (by assumption) | exact fFirst_r fNoTh_r fNoTh_r (by assumption) | exact fFirst_r fBelow_r fAbove_r (by assumption)))] at hK
      exact hK _ s (hM.bump (by first | (unfold rfs; decide) | exact fNoBlow_r (by assumption) | exact fFirst_r fNoTh_r fNoTh_r (by assumption) | exact fFirst_r fBelow_r fAbove_r (by assumption)))
    · refine b_X12_secret [] ?_
      conv => whnf
      refine ⟨fun c26 => ?_, fun c26 => absurd c10 c26⟩
      conv => whnf
      refine ⟨fun c31 => ?_, fun c31 => ?_⟩
      · refine b_X12_secret [] ?_
        conv => whnf
        refine ⟨fun c45 => absurd c45 (by decide), fun c45 => ?_⟩
        conv => whnf
        refine m_no (x := (Int32.ofInt (-3))) (by first | (unfold rfs; decide) | exact fNoBlow_r (by assumption) | exact fFirst_r fNoTh_r fNoTh_r (by assumption) | exact fFirst_r fBelow_r fAbove_r (by assumption)) ?_
        refine b_X12_secret [] ?_
        conv => whnf
        refine b_X12_secret [] ?_
        conv => whnf
        have e0 : (fSec (fFirst (fFirst (fNoTh ((a.1 0).1 0) x) (fNoTh ((a.1 0).1 0) y)) (fNoTh ((a.1 0).1 0) z)) x y z) = (Int32.ofInt (-3)) := (sec_y (fF0 c10 (th_F c18)) c31)
        rw [e0, qA_n (rfs_n (by first | (unfold rfs; decide) | exact fNoBlow_r (by assumption) | exact fFirst_r fNoTh_r fNoTh_r (by assumption) | exact fFirst_r fBelow_r fAbove_r (by assumption)))] at hK
        exact hK _ s (hM.bump (by first | (unfold rfs; decide) | exact fNoBlow_r (by assumption) | exact fFirst_r fNoTh_r fNoTh_r (by assumption) | exact fFirst_r fBelow_r fAbove_r (by assumption)))
      · conv => whnf
        refine ⟨fun c36 => ?_, fun c36 => ?_⟩
        · conv => whnf
          refine ⟨fun c45 => absurd c45 (by decide), fun c45 => ?_⟩
          conv => whnf
          refine m_no (x := (Int32.ofInt (-3))) (by first | (unfold rfs; decide) | exact fNoBlow_r (by assumption) | exact fFirst_r fNoTh_r fNoTh_r (by assumption) | exact fFirst_r fBelow_r fAbove_r (by assumption)) ?_
          refine b_X12_secret [] ?_
          conv => whnf
          refine b_X12_secret [] ?_
          conv => whnf
          have e0 : (fSec (fFirst (fFirst (fNoTh ((a.1 0).1 0) x) (fNoTh ((a.1 0).1 0) y)) (fNoTh ((a.1 0).1 0) z)) x y z) = (Int32.ofInt (-3)) := (sec_x (fF0 c10 (th_F c18)) c31 c36)
          rw [e0, qA_n (rfs_n (by first | (unfold rfs; decide) | exact fNoBlow_r (by assumption) | exact fFirst_r fNoTh_r fNoTh_r (by assumption) | exact fFirst_r fBelow_r fAbove_r (by assumption)))] at hK
          exact hK _ s (hM.bump (by first | (unfold rfs; decide) | exact fNoBlow_r (by assumption) | exact fFirst_r fNoTh_r fNoTh_r (by assumption) | exact fFirst_r fBelow_r fAbove_r (by assumption)))
        · refine b_X12_secret [] ?_
          conv => whnf
          refine ⟨fun c45 => ?_, fun c45 => absurd c10 c45⟩
          refine b_X12_secret [] ?_
          conv => whnf
          have r0 : (fSec (fFirst (fFirst (fNoTh ((a.1 0).1 0) x) (fNoTh ((a.1 0).1 0) y)) (fNoTh ((a.1 0).1 0) z)) x y z) = 0 := (sec_0 (fF0 c10 (th_F c18)) c31 c36)
          rw [qA_0 r0, qB_0 r0] at hK
          have r1 : (fFirst (fFirst (fNoTh ((a.1 0).1 0) x) (fNoTh ((a.1 0).1 0) y)) (fNoTh ((a.1 0).1 0) z)) = 0 := fF0 c10 (th_F c18)
          obtain ⟨r2a, r2b⟩ := fFirst_0 r1
          obtain ⟨r3a, r3b⟩ := fFirst_0 r2a
          obtain ⟨x_, hx, rfl⟩ := fNoTh_0 (n := nO (a.1 0)) (by omega) (by rw [← hn]; exact r3a)
          have ex : (nI x_).toNatClampNeg = x_ := nI_clamp (by omega)
          try rw [ex] at hK
          obtain ⟨y_, hy, rfl⟩ := fNoTh_0 (n := nO (a.1 0)) (by omega) (by rw [← hn]; exact r3b)
          have ey : (nI y_).toNatClampNeg = y_ := nI_clamp (by omega)
          try rw [ey] at hK
          obtain ⟨z_, hz, rfl⟩ := fNoTh_0 (n := nO (a.1 0)) (by omega) (by rw [← hn]; exact r2b)
          have ez : (nI z_).toNatClampNeg = z_ := nI_clamp (by omega)
          try rw [ez] at hK
          refine m_cof h hI.fk hx hy (Or.inr ⟨z_, hz, rfl⟩) (fun s2 => ?_)
          refine b_X12_secret [] ?_
          conv => whnf
          exact hK m s2 hM
  · refine b_X12_secret [] ?_
    conv => whnf
    refine ⟨fun c26 => absurd c26 c10, fun c26 => ?_⟩
    refine b_X12_secret [] ?_
    conv => whnf
    refine ⟨fun c45 => absurd c45 c10, fun c45 => ?_⟩
    conv => whnf
    refine m_no (x := (fFirst (fNoTh ((a.1 0).1 0) x) (fNoTh ((a.1 0).1 0) y))) (by first | (unfold rfs; decide) | exact fNoBlow_r (by assumption) | exact fFirst_r fNoTh_r fNoTh_r (by assumption) | exact fFirst_r fBelow_r fAbove_r (by assumption)) ?_
    refine b_X12_secret [] ?_
    conv => whnf
    refine b_X12_secret [] ?_
    conv => whnf
    have e0 : (fSec (fFirst (fFirst (fNoTh ((a.1 0).1 0) x) (fNoTh ((a.1 0).1 0) y)) (fNoTh ((a.1 0).1 0) z)) x y z) = (fFirst (fNoTh ((a.1 0).1 0) x) (fNoTh ((a.1 0).1 0) y)) := (sec_n (fFn rfl (rfs_n (by first | (unfold rfs; decide) | exact fNoBlow_r (by assumption) | exact fFirst_r fNoTh_r fNoTh_r (by assumption) | exact fFirst_r fBelow_r fAbove_r (by assumption)))) (rfs_n (by first | (unfold rfs; decide) | exact fNoBlow_r (by assumption) | exact fFirst_r fNoTh_r fNoTh_r (by assumption) | exact fFirst_r fBelow_r fAbove_r (by assumption))))
    rw [e0, qA_n (rfs_n (by first | (unfold rfs; decide) | exact fNoBlow_r (by assumption) | exact fFirst_r fNoTh_r fNoTh_r (by assumption) | exact fFirst_r fBelow_r fAbove_r (by assumption)))] at hK
    exact hK _ s (hM.bump (by first | (unfold rfs; decide) | exact fNoBlow_r (by assumption) | exact fFirst_r fNoTh_r fNoTh_r (by assumption) | exact fFirst_r fBelow_r fAbove_r (by assumption)))
