/-! SPECS of the model: reads, the row, letters -/
theorem and1 (y : Int32) : y &&& nI 1 = nI 0 ∨ y &&& nI 1 = nI 1 := by
  have h : ∀ j, j < 32 → bitN (y &&& nI 1) j = (bitN y j && decide (0 = j)) := by
    intro j hj
    rw [bitN_and, show nI 1 = nI 1 <<< (nI 0 &&& 31) by decide, bitN_tp 0 j (by omega)]
  cases q : bitN y 0
  · refine Or.inl (bitN_ext (fun j hj => ?_))
    rw [h j hj, bitN_0]
    by_cases z : 0 = j
    · subst z; rw [q]; rfl
    · simp [z]
  · refine Or.inr (bitN_ext (fun j hj => ?_))
    rw [h j hj, show nI 1 = nI 1 <<< (nI 0 &&& 31) by decide, bitN_tp 0 j (by omega)]
    by_cases z : 0 = j
    · subst z; rw [q]; rfl
    · simp [z]
theorem shr1 {s : Int32} {t : Nat} (h : t < 32) : (s >>> (nI t &&& 31)) &&& nI 1 = bI (hasB s (nI t)) := by
  rw [← hasM_B s t h]
  unfold hasM
  rcases and1 (s >>> (nI t &&& 31)) with e | e
  · rw [e, decide_eq_false (by decide)]; rfl
  · rw [e, decide_eq_true rfl]; rfl
theorem unk7 {c : Int32} (h : ∀ j, j ≤ 6 → ¬ c = nI j) : fUnk c (nI 6) = Int32.ofInt (-2) := by
  by_cases z : fUnk c (nI 6) = 0
  · obtain ⟨j, hj, e⟩ := fUnk_0 (by decide) z
    exact absurd e (h j hj)
  · unfold fUnk at z ⊢
    by_cases c1 : c < 0
    · rw [if_pos c1]
    · rw [if_neg c1] at z ⊢
      by_cases c2 : c ≤ nI 6
      · rw [if_pos c2] at z; exact absurd nI_0 z
      · rw [if_neg c2]
theorem m_thingOf {a : Ab} {m : MS} {s : S3} {x c : Int32} (hI : Inv a) (hM : MR a m) {K : Option Value → AH → Prop} (hK : ∀ m2 (s2 : S3), MR (qB a (fFirst (fNoTh ((a.1 0).1 0) x) (fUnk c (nI 6)))) m2 → K (some (.int (qA (fFirst (fNoTh ((a.1 0).1 0) x) (fUnk c (nI 6))) (if c = nI 0 then (a.1 0).2 0 x.toNatClampNeg else if c = nI 1 then (a.1 0).2 1 x.toNatClampNeg else if c = nI 2 then (a.1 0).2 2 x.toNatClampNeg else if c = nI 3 then bI (hasB ((a.1 0).1 1) x) else if c = nI 4 then fLoss ((a.1 0).2 0 x.toNatClampNeg) ((a.1 0).2 1 x.toNatClampNeg) else if c = nI 5 then fStands ((a.1 0).2 0 x.toNatClampNeg) ((a.1 0).2 1 x.toNatClampNeg) else nI ((plW (a.1 0)) x.toNatClampNeg))))) (mC m2 s2.1 s2.2.2)) : am_M i_X12_thingOf [.ref 0, .int x, .int c] (mC m s.1 s.2.2) K := by
  have h := hM.x hI
  have hn := hI.n
  have hn8 := hI.n8
  refine e_X12_thingOf [] ?_
  conv => whnf
  refine m_isTR hM ?_
  refine b_X12_thingOf [] ?_
  conv => whnf
  refine ⟨fun c5 => ?_, fun c5 => ?_⟩
  · conv => whnf
    refine m_no (x := Int32.ofInt (-1)) (by first | (unfold rfs; decide) | exact fNoBlow_r (by assumption) | exact fFirst_r fNoTh_r fNoTh_r (by assumption) | exact fFirst_r fBelow_r fAbove_r (by assumption)) ?_
    refine b_X12_thingOf [] ?_
    conv => whnf
    have e0 : (fFirst (fNoTh ((a.1 0).1 0) x) (fUnk c (nI 6))) = Int32.ofInt (-1) := (fFn (th_T c5) (rfs_n (by first | (unfold rfs; decide) | exact fNoBlow_r (by assumption) | exact fFirst_r fNoTh_r fNoTh_r (by assumption) | exact fFirst_r fBelow_r fAbove_r (by assumption))))
    rw [e0, qA_n (rfs_n (by first | (unfold rfs; decide) | exact fNoBlow_r (by assumption) | exact fFirst_r fNoTh_r fNoTh_r (by assumption) | exact fFirst_r fBelow_r fAbove_r (by assumption)))] at hK
    exact hK _ s (hM.bump (by first | (unfold rfs; decide) | exact fNoBlow_r (by assumption) | exact fFirst_r fNoTh_r fNoTh_r (by assumption) | exact fFirst_r fBelow_r fAbove_r (by assumption)))
  · refine b_X12_thingOf [] ?_
    conv => whnf
    refine ⟨fun (s15_0 : _ = nI 0) => ?_, fun (s15_0 : ¬ _ = nI 0) => ?_⟩
    · conv => whnf
      refine b_X12_thingOf [] ?_
      conv => whnf
      have r0 : (fFirst (fNoTh ((a.1 0).1 0) x) (fUnk c (nI 6))) = 0 := fF0 (th_F c5) (by rw [s15_0]; decide)
      rw [qA_0 r0, qB_0 r0] at hK
      obtain ⟨x_, hx, rfl⟩ := fNoTh_0 (n := nO (a.1 0)) (by omega) (by rw [← hn]; exact th_F c5)
      have ex : (nI x_).toNatClampNeg = x_ := nI_clamp (by omega)
      rw [ex, if_pos s15_0] at hK
      refine ⟨(vp_in_nI (show x_ < 8 by omega) (by decide)), ?_⟩
      conv => whnf
      rw [ex, h.k (show x_ < 8 by omega)]
      exact hK m s hM
    conv => whnf
    refine ⟨fun (s15_1 : _ = nI 1) => ?_, fun (s15_1 : ¬ _ = nI 1) => ?_⟩
    · conv => whnf
      refine b_X12_thingOf [] ?_
      conv => whnf
      have r0 : (fFirst (fNoTh ((a.1 0).1 0) x) (fUnk c (nI 6))) = 0 := fF0 (th_F c5) (by rw [s15_1]; decide)
      rw [qA_0 r0, qB_0 r0] at hK
      obtain ⟨x_, hx, rfl⟩ := fNoTh_0 (n := nO (a.1 0)) (by omega) (by rw [← hn]; exact th_F c5)
      have ex : (nI x_).toNatClampNeg = x_ := nI_clamp (by omega)
      rw [ex, if_neg s15_0, if_pos s15_1] at hK
      refine ⟨(vp_in_nI (show x_ < 8 by omega) (by decide)), ?_⟩
      conv => whnf
      rw [ex, h.f (show x_ < 8 by omega)]
      exact hK m s hM
    conv => whnf
    refine ⟨fun (s15_2 : _ = nI 2) => ?_, fun (s15_2 : ¬ _ = nI 2) => ?_⟩
    · conv => whnf
      refine b_X12_thingOf [] ?_
      conv => whnf
      have r0 : (fFirst (fNoTh ((a.1 0).1 0) x) (fUnk c (nI 6))) = 0 := fF0 (th_F c5) (by rw [s15_2]; decide)
      rw [qA_0 r0, qB_0 r0] at hK
      obtain ⟨x_, hx, rfl⟩ := fNoTh_0 (n := nO (a.1 0)) (by omega) (by rw [← hn]; exact th_F c5)
      have ex : (nI x_).toNatClampNeg = x_ := nI_clamp (by omega)
      rw [ex, if_neg s15_0, if_neg s15_1, if_pos s15_2] at hK
      refine ⟨(vp_in_nI (show x_ < 8 by omega) (by decide)), ?_⟩
      conv => whnf
      rw [ex, h.a (show x_ < 8 by omega)]
      exact hK m s hM
    conv => whnf
    refine ⟨fun (s15_3 : _ = nI 3) => ?_, fun (s15_3 : ¬ _ = nI 3) => ?_⟩
    · conv => whnf
      refine b_X12_thingOf [] ?_
      conv => whnf
      have r0 : (fFirst (fNoTh ((a.1 0).1 0) x) (fUnk c (nI 6))) = 0 := fF0 (th_F c5) (by rw [s15_3]; decide)
      rw [qA_0 r0, qB_0 r0] at hK
      obtain ⟨x_, hx, rfl⟩ := fNoTh_0 (n := nO (a.1 0)) (by omega) (by rw [← hn]; exact th_F c5)
      have ex : (nI x_).toNatClampNeg = x_ := nI_clamp (by omega)
      rw [ex, if_neg s15_0, if_neg s15_1, if_neg s15_2, if_pos s15_3] at hK
      rw [← shr1 (by omega), ← h.br] at hK
      exact hK m s hM
    conv => whnf
    refine ⟨fun (s15_4 : _ = nI 4) => ?_, fun (s15_4 : ¬ _ = nI 4) => ?_⟩
    · conv => whnf
      refine b_X12_thingOf [] ?_
      conv => whnf
      have r0 : (fFirst (fNoTh ((a.1 0).1 0) x) (fUnk c (nI 6))) = 0 := fF0 (th_F c5) (by rw [s15_4]; decide)
      rw [qA_0 r0, qB_0 r0] at hK
      obtain ⟨x_, hx, rfl⟩ := fNoTh_0 (n := nO (a.1 0)) (by omega) (by rw [← hn]; exact th_F c5)
      have ex : (nI x_).toNatClampNeg = x_ := nI_clamp (by omega)
      rw [ex, if_neg s15_0, if_neg s15_1, if_neg s15_2, if_neg s15_3, if_pos s15_4] at hK
      refine m_lossOf (m := m) (g := s.1) (b := s.2.2) (show x_ < 8 by omega) ?_
      rw [h.k (by omega), h.f (by omega)]
      refine b_X12_thingOf [] ?_
      conv => whnf
      exact hK m s hM
    conv => whnf
    refine ⟨fun (s15_5 : _ = nI 5) => ?_, fun (s15_5 : ¬ _ = nI 5) => ?_⟩
    · conv => whnf
      refine b_X12_thingOf [] ?_
      conv => whnf
      have r0 : (fFirst (fNoTh ((a.1 0).1 0) x) (fUnk c (nI 6))) = 0 := fF0 (th_F c5) (by rw [s15_5]; decide)
      rw [qA_0 r0, qB_0 r0] at hK
      obtain ⟨x_, hx, rfl⟩ := fNoTh_0 (n := nO (a.1 0)) (by omega) (by rw [← hn]; exact th_F c5)
      have ex : (nI x_).toNatClampNeg = x_ := nI_clamp (by omega)
      rw [ex, if_neg s15_0, if_neg s15_1, if_neg s15_2, if_neg s15_3, if_neg s15_4, if_pos s15_5] at hK
      refine m_standsOf (m := m) (g := s.1) (b := s.2.2) (show x_ < 8 by omega) ?_
      rw [h.k (by omega), h.f (by omega)]
      refine b_X12_thingOf [] ?_
      conv => whnf
      exact hK m s hM
    conv => whnf
    refine ⟨fun (s15_6 : _ = nI 6) => ?_, fun (s15_6 : ¬ _ = nI 6) => ?_⟩
    · conv => whnf
      refine b_X12_thingOf [] ?_
      conv => whnf
      have r0 : (fFirst (fNoTh ((a.1 0).1 0) x) (fUnk c (nI 6))) = 0 := fF0 (th_F c5) (by rw [s15_6]; decide)
      rw [qA_0 r0, qB_0 r0] at hK
      obtain ⟨x_, hx, rfl⟩ := fNoTh_0 (n := nO (a.1 0)) (by omega) (by rw [← hn]; exact th_F c5)
      have ex : (nI x_).toNatClampNeg = x_ := nI_clamp (by omega)
      rw [ex, if_neg s15_0, if_neg s15_1, if_neg s15_2, if_neg s15_3, if_neg s15_4, if_neg s15_5] at hK
      refine m_placeOf (m := m) (g := s.1) (b := s.2.2) h.ok hx ?_
      refine b_X12_thingOf [] ?_
      conv => whnf
      exact hK m s hM
    conv => whnf
    refine b_X12_thingOf [] ?_
    conv => whnf
    refine m_no (x := Int32.ofInt (-2)) (by first | (unfold rfs; decide) | exact fNoBlow_r (by assumption) | exact fFirst_r fNoTh_r fNoTh_r (by assumption) | exact fFirst_r fBelow_r fAbove_r (by assumption)) ?_
    refine b_X12_thingOf [] ?_
    conv => whnf
    have e0 : (fFirst (fNoTh ((a.1 0).1 0) x) (fUnk c (nI 6))) = Int32.ofInt (-2) := (fF0 (th_F c5) (unk7 (fun j hj => by
      have : j = 0 ∨ j = 1 ∨ j = 2 ∨ j = 3 ∨ j = 4 ∨ j = 5 ∨ j = 6 := by omega
      rcases this with rfl | rfl | rfl | rfl | rfl | rfl | rfl <;> assumption)))
    rw [e0, qA_n (rfs_n (by first | (unfold rfs; decide) | exact fNoBlow_r (by assumption) | exact fFirst_r fNoTh_r fNoTh_r (by assumption) | exact fFirst_r fBelow_r fAbove_r (by assumption)))] at hK
    exact hK _ s (hM.bump (by first | (unfold rfs; decide) | exact fNoBlow_r (by assumption) | exact fFirst_r fNoTh_r fNoTh_r (by assumption) | exact fFirst_r fBelow_r fAbove_r (by assumption)))
theorem m_place {a : Ab} {m : MS} {s : S3} {x c : Int32} (hI : Inv a) (hM : MR a m)  {K : Option Value → AH → Prop} (hK : ∀ m2 (s2 : S3), MR (qB a (fFirst (fNoTh ((a.1 0).1 0) x) (fUnk c (nI 1)))) m2 → K (some (.int (qA (fFirst (fNoTh ((a.1 0).1 0) x) (fUnk c (nI 1))) (if c = 0 then (a.1 0).2 3 x.toNatClampNeg else if x = (a.1 0).1 0 - nI 1 then Int32.ofInt (-9) else bI (fCut ((a.1 0).1 2) x))))) (mC m2 s2.1 s2.2.2)) : am_M i_X12_place [.ref 0, .int x, .int c] (mC m s.1 s.2.2) K := by
  have h := hM.x hI
  have hn := hI.n
  have hn8 := hI.n8
  refine e_X12_place [] ?_
  conv => whnf
  refine m_isTR hM ?_
  refine b_X12_place [] ?_
  conv => whnf
  refine ⟨fun c5 => ?_, fun c5 => ?_⟩
  · conv => whnf
    refine m_no (x := (Int32.ofInt (-1))) (by first | (unfold rfs; decide) | exact fNoBlow_r (by assumption) | exact fFirst_r fNoTh_r fNoTh_r (by assumption) | exact fFirst_r fBelow_r fAbove_r (by assumption)) ?_
    refine b_X12_place [] ?_
    conv => whnf
    have e0 : (fFirst (fNoTh ((a.1 0).1 0) x) (fUnk c (nI 1))) = (Int32.ofInt (-1)) := (fFn (th_T c5) (rfs_n (by first | (unfold rfs; decide) | exact fNoBlow_r (by assumption) | exact fFirst_r fNoTh_r fNoTh_r (by assumption) | exact fFirst_r fBelow_r fAbove_r (by assumption))))
    rw [e0, qA_n (rfs_n (by first | (unfold rfs; decide) | exact fNoBlow_r (by assumption) | exact fFirst_r fNoTh_r fNoTh_r (by assumption) | exact fFirst_r fBelow_r fAbove_r (by assumption)))] at hK
    exact hK _ s (hM.bump (by first | (unfold rfs; decide) | exact fNoBlow_r (by assumption) | exact fFirst_r fNoTh_r fNoTh_r (by assumption) | exact fFirst_r fBelow_r fAbove_r (by assumption)))
  · refine b_X12_place [] ?_
    conv => whnf
    refine m_isIn ?_
    refine b_X12_place [] ?_
    conv => whnf
    refine ⟨fun c20 => ?_, fun c20 => ?_⟩
    · conv => whnf
      refine m_no (x := (Int32.ofInt (-2))) (by first | (unfold rfs; decide) | exact fNoBlow_r (by assumption) | exact fFirst_r fNoTh_r fNoTh_r (by assumption) | exact fFirst_r fBelow_r fAbove_r (by assumption)) ?_
      refine b_X12_place [] ?_
      conv => whnf
      have e0 : (fFirst (fNoTh ((a.1 0).1 0) x) (fUnk c (nI 1))) = (Int32.ofInt (-2)) := (fF0 (th_F c5) (in_T c20))
      rw [e0, qA_n (rfs_n (by first | (unfold rfs; decide) | exact fNoBlow_r (by assumption) | exact fFirst_r fNoTh_r fNoTh_r (by assumption) | exact fFirst_r fBelow_r fAbove_r (by assumption)))] at hK
      exact hK _ s (hM.bump (by first | (unfold rfs; decide) | exact fNoBlow_r (by assumption) | exact fFirst_r fNoTh_r fNoTh_r (by assumption) | exact fFirst_r fBelow_r fAbove_r (by assumption)))
    · refine b_X12_place [] ?_
      conv => whnf
      have r0 : (fFirst (fNoTh ((a.1 0).1 0) x) (fUnk c (nI 1))) = 0 := (fF0 (th_F c5) (in_F c20))
      rw [qA_0 r0, qB_0 r0] at hK
      obtain ⟨r1a, r1b⟩ := fFirst_0 r0
      obtain ⟨x_, hx, rfl⟩ := fNoTh_0 (n := nO (a.1 0)) (by omega) (by rw [← hn]; exact r1a)
      have ex : (nI x_).toNatClampNeg = x_ := nI_clamp (by omega)
      try rw [ex] at hK
      have uc := r1b
      refine ⟨fun c31 => ?_, fun c31 => ?_⟩
      · conv => whnf
        refine ⟨(vp_in_nI (show x_ < 8 by omega) (by decide)), ?_⟩
        conv => whnf
        rw [ex, h.w (show x_ < 8 by omega)]
        refine b_X12_place [] ?_
        conv => whnf
        rw [if_pos c31] at hK
        exact hK m s hM
      · refine b_X12_place [] ?_
        conv => whnf
        have hl2 : (a.1 0).1 0 - nI 1 = nI (nO (a.1 0) - 1) := by rw [hn, nI_m _ (by omega)]
        rw [if_neg c31, hl2] at hK
        refine m_isLink (m := m) (g := s.1) (b := s.2.2) ?_
        have hl : m.1 5 - nI 1 = nI (nO (a.1 0) - 1) := by rw [h.n, nI_m _ (by omega)]
        rw [hl]
        refine b_X12_place [] ?_
        conv => whnf
        refine ⟨fun c48 => ?_, fun c48 => ?_⟩
        · refine b_X12_place [] ?_
          conv => whnf
          have hx2 : ¬ x_ < nO (a.1 0) - 1 := fun z => by
            have := fIsTh_t z (by omega)
            rw [this] at c48
            exact absurd c48 (by decide)
          rw [if_pos (by congr 1; omega)] at hK
          exact hK m s hM
        · conv => whnf
          refine b_X12_place [] ?_
          conv => whnf
          have hx2 : ¬ nI x_ = nI (nO (a.1 0) - 1) := fun z => by
            have z2 := (nI_eq (by omega) (by omega)).mp z
            have : fIsTh (nI (nO (a.1 0) - 1)) (nI x_) = false := by
              unfold fIsTh
              rw [decide_eq_true (nI_le (show nO (a.1 0) - 1 ≤ x_ by omega) (by omega))]
              simp
            rw [this] at c48
            exact c48 (by decide)
          rw [if_neg hx2, fCut_hasB (by omega), ← shr1 (by omega), ← h.cu] at hK
          exact hK m s hM
theorem ml_cnt {m : MS} {w : WS} {n : Nat} {A P : Nat → Nat} {s : S3} {c : Int32} {K : Option Value → AH → Prop} (h : mX m w n A P) : ∀ (k i : Nat) (x : Int32), i + k = n → (K (some (.int (itr (fun t x => x + fLoss (w.2 0 t) (w.2 1 t)) k i x))) (mC m s.1 s.2.2)) → am_E i_X12_count 94 [some (.ref 0), some (.int c), some (.int x), some (.int (nI i))] [] (mC m s.1 s.2.2) K := by
  intro k
  induction k with
  | zero =>
    intro i x hi hK
    obtain rfl : i = n := by omega
    refine b_X12_count [94] ?_
    conv => whnf
    refine ⟨fun c99 => ?_, fun c99 => absurd (by rw [h.n]; exact nI_le (Nat.le_refl _) (by have := h.n8; omega)) c99⟩
    refine b_X12_count [94] ?_
    conv => whnf
    exact hK
  | succ k ih =>
    intro i x hi hK
    refine b_X12_count [94] ?_
    conv => whnf
    refine ⟨fun c99 => absurd c99 (by rw [h.n]; exact nI_ge (by omega) (by have := h.n8; omega)), fun c99 => ?_⟩
    conv => whnf
    refine m_lossOf (m := m) (g := s.1) (b := s.2.2) (show i < 8 by have := h.n8; omega) ?_
    rw [h.k (by have := h.n8; omega), h.f (by have := h.n8; omega)]
    refine b_X12_count [94] ?_
    conv => whnf
    have h2 := ih (i + 1) _ (by omega) hK
    rw [← nI_add i 1] at h2
    exact h2
theorem fIn_F {c : Int32} (h : fIn c (nI 11) (nI 16) = false) : c ≤ nI 10 ∨ (¬ c ≤ nI 10 ∧ nI 16 < c) := by
  unfold fIn at h
  by_cases h1 : c ≤ nI 10
  · exact Or.inl h1
  · refine Or.inr ⟨h1, ?_⟩
    by_cases h2 : nI 16 < c
    · exact h2
    · obtain ⟨j, h3, h4, rfl⟩ := btw_of (x := c) (lo := 10) (hi := 16) (by decide) (by decide) (Int32.le_of_lt (Int32.not_le.mp h1)) (Int32.not_lt.mp h2)
      have : j ≠ 10 := fun z => h1 (by rw [z]; exact Int32.le_refl _)
      rw [decide_eq_false (fun z => absurd ((nI_ltI (by omega) (by omega)).mp z) (by omega)), decide_eq_false h2] at h
      cases h
theorem fIn_T {c : Int32} (h : fIn c (nI 11) (nI 16) = true) : ¬ c ≤ nI 10 ∧ ¬ nI 16 < c := by
  unfold fIn at h
  simp only [Bool.and_eq_true, Bool.not_eq_true', decide_eq_false_iff_not] at h
  refine ⟨fun z => h.1 (Int32.lt_of_le_of_lt z (by decide)), h.2⟩
theorem m_count {a : Ab} {m : MS} {s : S3} {c : Int32} (hI : Inv a) (hM : MR a m) {K : Option Value → AH → Prop} (hK : K (some (.int (if c ≤ nI 10 then (if c = nI 0 then (a.1 0).1 0 else if c = nI 1 then (a.1 0).1 3 else if c = nI 2 then (a.1 0).1 1 else if c = nI 3 then (a.1 0).1 2 else if c = nI 4 then itr (fun t x => x + fLoss ((a.1 0).2 0 t) ((a.1 0).2 1 t)) (nO (a.1 0)) 0 (nI 0) else if c = nI 5 then nI (a.2.2 2) else if c = nI 6 then nI (a.2.2 1) else if c = nI 7 then nI (a.2.2 3) else Int32.ofInt (-9)) else if nI 16 < c then (if c = nI 0 then (a.1 0).1 0 else if c = nI 1 then (a.1 0).1 3 else if c = nI 2 then (a.1 0).1 1 else if c = nI 3 then (a.1 0).1 2 else if c = nI 4 then itr (fun t x => x + fLoss ((a.1 0).2 0 t) ((a.1 0).2 1 t)) (nO (a.1 0)) 0 (nI 0) else if c = nI 5 then nI (a.2.2 2) else if c = nI 6 then nI (a.2.2 1) else if c = nI 7 then nI (a.2.2 3) else Int32.ofInt (-9)) else a.2.1 0 (c - nI 10).toNatClampNeg))) (mC m s.1 s.2.2)) : am_M i_X12_count [.ref 0, .int c] (mC m s.1 s.2.2) K := by
  have h := hM.x hI
  refine e_X12_count [94] ?_
  conv => whnf
  refine m_isIn ?_
  refine b_X12_count [94] ?_
  conv => whnf
  refine ⟨fun c8 => ?_, fun c8 => ?_⟩
  · refine b_X12_count [94] ?_
    conv => whnf
    refine ⟨fun (s24_0 : _ = nI 0) => ?_, fun (s24_0 : ¬ _ = nI 0) => ?_⟩
    · conv => whnf
      refine b_X12_count [94] ?_
      conv => whnf
      have e9 : (if c ≤ nI 10 then (if c = nI 0 then (a.1 0).1 0 else if c = nI 1 then (a.1 0).1 3 else if c = nI 2 then (a.1 0).1 1 else if c = nI 3 then (a.1 0).1 2 else if c = nI 4 then itr (fun t x => x + fLoss ((a.1 0).2 0 t) ((a.1 0).2 1 t)) (nO (a.1 0)) 0 (nI 0) else if c = nI 5 then nI (a.2.2 2) else if c = nI 6 then nI (a.2.2 1) else if c = nI 7 then nI (a.2.2 3) else Int32.ofInt (-9)) else if nI 16 < c then (if c = nI 0 then (a.1 0).1 0 else if c = nI 1 then (a.1 0).1 3 else if c = nI 2 then (a.1 0).1 1 else if c = nI 3 then (a.1 0).1 2 else if c = nI 4 then itr (fun t x => x + fLoss ((a.1 0).2 0 t) ((a.1 0).2 1 t)) (nO (a.1 0)) 0 (nI 0) else if c = nI 5 then nI (a.2.2 2) else if c = nI 6 then nI (a.2.2 1) else if c = nI 7 then nI (a.2.2 3) else Int32.ofInt (-9)) else a.2.1 0 (c - nI 10).toNatClampNeg) = (if c = nI 0 then (a.1 0).1 0 else if c = nI 1 then (a.1 0).1 3 else if c = nI 2 then (a.1 0).1 1 else if c = nI 3 then (a.1 0).1 2 else if c = nI 4 then itr (fun t x => x + fLoss ((a.1 0).2 0 t) ((a.1 0).2 1 t)) (nO (a.1 0)) 0 (nI 0) else if c = nI 5 then nI (a.2.2 2) else if c = nI 6 then nI (a.2.2 1) else if c = nI 7 then nI (a.2.2 3) else Int32.ofInt (-9)) := by
        rcases fIn_F (bI_0.mp c8) with q | ⟨q1, q2⟩
        · rw [if_pos q]
        · rw [if_neg q1, if_pos q2]
      rw [e9, if_pos s24_0] at hK
      rw [← hM.n] at hK
      exact hK
    conv => whnf
    refine ⟨fun (s24_1 : _ = nI 1) => ?_, fun (s24_1 : ¬ _ = nI 1) => ?_⟩
    · conv => whnf
      refine b_X12_count [94] ?_
      conv => whnf
      have e9 : (if c ≤ nI 10 then (if c = nI 0 then (a.1 0).1 0 else if c = nI 1 then (a.1 0).1 3 else if c = nI 2 then (a.1 0).1 1 else if c = nI 3 then (a.1 0).1 2 else if c = nI 4 then itr (fun t x => x + fLoss ((a.1 0).2 0 t) ((a.1 0).2 1 t)) (nO (a.1 0)) 0 (nI 0) else if c = nI 5 then nI (a.2.2 2) else if c = nI 6 then nI (a.2.2 1) else if c = nI 7 then nI (a.2.2 3) else Int32.ofInt (-9)) else if nI 16 < c then (if c = nI 0 then (a.1 0).1 0 else if c = nI 1 then (a.1 0).1 3 else if c = nI 2 then (a.1 0).1 1 else if c = nI 3 then (a.1 0).1 2 else if c = nI 4 then itr (fun t x => x + fLoss ((a.1 0).2 0 t) ((a.1 0).2 1 t)) (nO (a.1 0)) 0 (nI 0) else if c = nI 5 then nI (a.2.2 2) else if c = nI 6 then nI (a.2.2 1) else if c = nI 7 then nI (a.2.2 3) else Int32.ofInt (-9)) else a.2.1 0 (c - nI 10).toNatClampNeg) = (if c = nI 0 then (a.1 0).1 0 else if c = nI 1 then (a.1 0).1 3 else if c = nI 2 then (a.1 0).1 1 else if c = nI 3 then (a.1 0).1 2 else if c = nI 4 then itr (fun t x => x + fLoss ((a.1 0).2 0 t) ((a.1 0).2 1 t)) (nO (a.1 0)) 0 (nI 0) else if c = nI 5 then nI (a.2.2 2) else if c = nI 6 then nI (a.2.2 1) else if c = nI 7 then nI (a.2.2 3) else Int32.ofInt (-9)) := by
        rcases fIn_F (bI_0.mp c8) with q | ⟨q1, q2⟩
        · rw [if_pos q]
        · rw [if_neg q1, if_pos q2]
      rw [e9, if_neg s24_0, if_pos s24_1] at hK
      rw [← h.dy] at hK
      exact hK
    conv => whnf
    refine ⟨fun (s24_2 : _ = nI 2) => ?_, fun (s24_2 : ¬ _ = nI 2) => ?_⟩
    · conv => whnf
      refine b_X12_count [94] ?_
      conv => whnf
      have e9 : (if c ≤ nI 10 then (if c = nI 0 then (a.1 0).1 0 else if c = nI 1 then (a.1 0).1 3 else if c = nI 2 then (a.1 0).1 1 else if c = nI 3 then (a.1 0).1 2 else if c = nI 4 then itr (fun t x => x + fLoss ((a.1 0).2 0 t) ((a.1 0).2 1 t)) (nO (a.1 0)) 0 (nI 0) else if c = nI 5 then nI (a.2.2 2) else if c = nI 6 then nI (a.2.2 1) else if c = nI 7 then nI (a.2.2 3) else Int32.ofInt (-9)) else if nI 16 < c then (if c = nI 0 then (a.1 0).1 0 else if c = nI 1 then (a.1 0).1 3 else if c = nI 2 then (a.1 0).1 1 else if c = nI 3 then (a.1 0).1 2 else if c = nI 4 then itr (fun t x => x + fLoss ((a.1 0).2 0 t) ((a.1 0).2 1 t)) (nO (a.1 0)) 0 (nI 0) else if c = nI 5 then nI (a.2.2 2) else if c = nI 6 then nI (a.2.2 1) else if c = nI 7 then nI (a.2.2 3) else Int32.ofInt (-9)) else a.2.1 0 (c - nI 10).toNatClampNeg) = (if c = nI 0 then (a.1 0).1 0 else if c = nI 1 then (a.1 0).1 3 else if c = nI 2 then (a.1 0).1 1 else if c = nI 3 then (a.1 0).1 2 else if c = nI 4 then itr (fun t x => x + fLoss ((a.1 0).2 0 t) ((a.1 0).2 1 t)) (nO (a.1 0)) 0 (nI 0) else if c = nI 5 then nI (a.2.2 2) else if c = nI 6 then nI (a.2.2 1) else if c = nI 7 then nI (a.2.2 3) else Int32.ofInt (-9)) := by
        rcases fIn_F (bI_0.mp c8) with q | ⟨q1, q2⟩
        · rw [if_pos q]
        · rw [if_neg q1, if_pos q2]
      rw [e9, if_neg s24_0, if_neg s24_1, if_pos s24_2] at hK
      rw [← h.br] at hK
      exact hK
    conv => whnf
    refine ⟨fun (s24_3 : _ = nI 3) => ?_, fun (s24_3 : ¬ _ = nI 3) => ?_⟩
    · conv => whnf
      refine b_X12_count [94] ?_
      conv => whnf
      have e9 : (if c ≤ nI 10 then (if c = nI 0 then (a.1 0).1 0 else if c = nI 1 then (a.1 0).1 3 else if c = nI 2 then (a.1 0).1 1 else if c = nI 3 then (a.1 0).1 2 else if c = nI 4 then itr (fun t x => x + fLoss ((a.1 0).2 0 t) ((a.1 0).2 1 t)) (nO (a.1 0)) 0 (nI 0) else if c = nI 5 then nI (a.2.2 2) else if c = nI 6 then nI (a.2.2 1) else if c = nI 7 then nI (a.2.2 3) else Int32.ofInt (-9)) else if nI 16 < c then (if c = nI 0 then (a.1 0).1 0 else if c = nI 1 then (a.1 0).1 3 else if c = nI 2 then (a.1 0).1 1 else if c = nI 3 then (a.1 0).1 2 else if c = nI 4 then itr (fun t x => x + fLoss ((a.1 0).2 0 t) ((a.1 0).2 1 t)) (nO (a.1 0)) 0 (nI 0) else if c = nI 5 then nI (a.2.2 2) else if c = nI 6 then nI (a.2.2 1) else if c = nI 7 then nI (a.2.2 3) else Int32.ofInt (-9)) else a.2.1 0 (c - nI 10).toNatClampNeg) = (if c = nI 0 then (a.1 0).1 0 else if c = nI 1 then (a.1 0).1 3 else if c = nI 2 then (a.1 0).1 1 else if c = nI 3 then (a.1 0).1 2 else if c = nI 4 then itr (fun t x => x + fLoss ((a.1 0).2 0 t) ((a.1 0).2 1 t)) (nO (a.1 0)) 0 (nI 0) else if c = nI 5 then nI (a.2.2 2) else if c = nI 6 then nI (a.2.2 1) else if c = nI 7 then nI (a.2.2 3) else Int32.ofInt (-9)) := by
        rcases fIn_F (bI_0.mp c8) with q | ⟨q1, q2⟩
        · rw [if_pos q]
        · rw [if_neg q1, if_pos q2]
      rw [e9, if_neg s24_0, if_neg s24_1, if_neg s24_2, if_pos s24_3] at hK
      rw [← h.cu] at hK
      exact hK
    conv => whnf
    refine ⟨fun (s24_4 : _ = nI 4) => ?_, fun (s24_4 : ¬ _ = nI 4) => ?_⟩
    · conv => whnf
      refine b_X12_count [94] ?_
      conv => whnf
      have e9 : (if c ≤ nI 10 then (if c = nI 0 then (a.1 0).1 0 else if c = nI 1 then (a.1 0).1 3 else if c = nI 2 then (a.1 0).1 1 else if c = nI 3 then (a.1 0).1 2 else if c = nI 4 then itr (fun t x => x + fLoss ((a.1 0).2 0 t) ((a.1 0).2 1 t)) (nO (a.1 0)) 0 (nI 0) else if c = nI 5 then nI (a.2.2 2) else if c = nI 6 then nI (a.2.2 1) else if c = nI 7 then nI (a.2.2 3) else Int32.ofInt (-9)) else if nI 16 < c then (if c = nI 0 then (a.1 0).1 0 else if c = nI 1 then (a.1 0).1 3 else if c = nI 2 then (a.1 0).1 1 else if c = nI 3 then (a.1 0).1 2 else if c = nI 4 then itr (fun t x => x + fLoss ((a.1 0).2 0 t) ((a.1 0).2 1 t)) (nO (a.1 0)) 0 (nI 0) else if c = nI 5 then nI (a.2.2 2) else if c = nI 6 then nI (a.2.2 1) else if c = nI 7 then nI (a.2.2 3) else Int32.ofInt (-9)) else a.2.1 0 (c - nI 10).toNatClampNeg) = (if c = nI 0 then (a.1 0).1 0 else if c = nI 1 then (a.1 0).1 3 else if c = nI 2 then (a.1 0).1 1 else if c = nI 3 then (a.1 0).1 2 else if c = nI 4 then itr (fun t x => x + fLoss ((a.1 0).2 0 t) ((a.1 0).2 1 t)) (nO (a.1 0)) 0 (nI 0) else if c = nI 5 then nI (a.2.2 2) else if c = nI 6 then nI (a.2.2 1) else if c = nI 7 then nI (a.2.2 3) else Int32.ofInt (-9)) := by
        rcases fIn_F (bI_0.mp c8) with q | ⟨q1, q2⟩
        · rw [if_pos q]
        · rw [if_neg q1, if_pos q2]
      rw [e9, if_neg s24_0, if_neg s24_1, if_neg s24_2, if_neg s24_3, if_pos s24_4] at hK
      exact ml_cnt h (nO (a.1 0)) 0 (nI 0) (by omega) hK
    conv => whnf
    refine ⟨fun (s24_5 : _ = nI 5) => ?_, fun (s24_5 : ¬ _ = nI 5) => ?_⟩
    · conv => whnf
      refine b_X12_count [94] ?_
      conv => whnf
      have e9 : (if c ≤ nI 10 then (if c = nI 0 then (a.1 0).1 0 else if c = nI 1 then (a.1 0).1 3 else if c = nI 2 then (a.1 0).1 1 else if c = nI 3 then (a.1 0).1 2 else if c = nI 4 then itr (fun t x => x + fLoss ((a.1 0).2 0 t) ((a.1 0).2 1 t)) (nO (a.1 0)) 0 (nI 0) else if c = nI 5 then nI (a.2.2 2) else if c = nI 6 then nI (a.2.2 1) else if c = nI 7 then nI (a.2.2 3) else Int32.ofInt (-9)) else if nI 16 < c then (if c = nI 0 then (a.1 0).1 0 else if c = nI 1 then (a.1 0).1 3 else if c = nI 2 then (a.1 0).1 1 else if c = nI 3 then (a.1 0).1 2 else if c = nI 4 then itr (fun t x => x + fLoss ((a.1 0).2 0 t) ((a.1 0).2 1 t)) (nO (a.1 0)) 0 (nI 0) else if c = nI 5 then nI (a.2.2 2) else if c = nI 6 then nI (a.2.2 1) else if c = nI 7 then nI (a.2.2 3) else Int32.ofInt (-9)) else a.2.1 0 (c - nI 10).toNatClampNeg) = (if c = nI 0 then (a.1 0).1 0 else if c = nI 1 then (a.1 0).1 3 else if c = nI 2 then (a.1 0).1 1 else if c = nI 3 then (a.1 0).1 2 else if c = nI 4 then itr (fun t x => x + fLoss ((a.1 0).2 0 t) ((a.1 0).2 1 t)) (nO (a.1 0)) 0 (nI 0) else if c = nI 5 then nI (a.2.2 2) else if c = nI 6 then nI (a.2.2 1) else if c = nI 7 then nI (a.2.2 3) else Int32.ofInt (-9)) := by
        rcases fIn_F (bI_0.mp c8) with q | ⟨q1, q2⟩
        · rw [if_pos q]
        · rw [if_neg q1, if_pos q2]
      rw [e9, if_neg s24_0, if_neg s24_1, if_neg s24_2, if_neg s24_3, if_neg s24_4, if_pos s24_5] at hK
      rw [← hM.2.2.2.1.1] at hK
      exact hK
    conv => whnf
    refine ⟨fun (s24_6 : _ = nI 6) => ?_, fun (s24_6 : ¬ _ = nI 6) => ?_⟩
    · conv => whnf
      refine b_X12_count [94] ?_
      conv => whnf
      have e9 : (if c ≤ nI 10 then (if c = nI 0 then (a.1 0).1 0 else if c = nI 1 then (a.1 0).1 3 else if c = nI 2 then (a.1 0).1 1 else if c = nI 3 then (a.1 0).1 2 else if c = nI 4 then itr (fun t x => x + fLoss ((a.1 0).2 0 t) ((a.1 0).2 1 t)) (nO (a.1 0)) 0 (nI 0) else if c = nI 5 then nI (a.2.2 2) else if c = nI 6 then nI (a.2.2 1) else if c = nI 7 then nI (a.2.2 3) else Int32.ofInt (-9)) else if nI 16 < c then (if c = nI 0 then (a.1 0).1 0 else if c = nI 1 then (a.1 0).1 3 else if c = nI 2 then (a.1 0).1 1 else if c = nI 3 then (a.1 0).1 2 else if c = nI 4 then itr (fun t x => x + fLoss ((a.1 0).2 0 t) ((a.1 0).2 1 t)) (nO (a.1 0)) 0 (nI 0) else if c = nI 5 then nI (a.2.2 2) else if c = nI 6 then nI (a.2.2 1) else if c = nI 7 then nI (a.2.2 3) else Int32.ofInt (-9)) else a.2.1 0 (c - nI 10).toNatClampNeg) = (if c = nI 0 then (a.1 0).1 0 else if c = nI 1 then (a.1 0).1 3 else if c = nI 2 then (a.1 0).1 1 else if c = nI 3 then (a.1 0).1 2 else if c = nI 4 then itr (fun t x => x + fLoss ((a.1 0).2 0 t) ((a.1 0).2 1 t)) (nO (a.1 0)) 0 (nI 0) else if c = nI 5 then nI (a.2.2 2) else if c = nI 6 then nI (a.2.2 1) else if c = nI 7 then nI (a.2.2 3) else Int32.ofInt (-9)) := by
        rcases fIn_F (bI_0.mp c8) with q | ⟨q1, q2⟩
        · rw [if_pos q]
        · rw [if_neg q1, if_pos q2]
      rw [e9, if_neg s24_0, if_neg s24_1, if_neg s24_2, if_neg s24_3, if_neg s24_4, if_neg s24_5, if_pos s24_6] at hK
      rw [← hM.2.2.1.1] at hK
      exact hK
    conv => whnf
    refine ⟨fun (s24_7 : _ = nI 7) => ?_, fun (s24_7 : ¬ _ = nI 7) => ?_⟩
    · conv => whnf
      refine b_X12_count [94] ?_
      conv => whnf
      have e9 : (if c ≤ nI 10 then (if c = nI 0 then (a.1 0).1 0 else if c = nI 1 then (a.1 0).1 3 else if c = nI 2 then (a.1 0).1 1 else if c = nI 3 then (a.1 0).1 2 else if c = nI 4 then itr (fun t x => x + fLoss ((a.1 0).2 0 t) ((a.1 0).2 1 t)) (nO (a.1 0)) 0 (nI 0) else if c = nI 5 then nI (a.2.2 2) else if c = nI 6 then nI (a.2.2 1) else if c = nI 7 then nI (a.2.2 3) else Int32.ofInt (-9)) else if nI 16 < c then (if c = nI 0 then (a.1 0).1 0 else if c = nI 1 then (a.1 0).1 3 else if c = nI 2 then (a.1 0).1 1 else if c = nI 3 then (a.1 0).1 2 else if c = nI 4 then itr (fun t x => x + fLoss ((a.1 0).2 0 t) ((a.1 0).2 1 t)) (nO (a.1 0)) 0 (nI 0) else if c = nI 5 then nI (a.2.2 2) else if c = nI 6 then nI (a.2.2 1) else if c = nI 7 then nI (a.2.2 3) else Int32.ofInt (-9)) else a.2.1 0 (c - nI 10).toNatClampNeg) = (if c = nI 0 then (a.1 0).1 0 else if c = nI 1 then (a.1 0).1 3 else if c = nI 2 then (a.1 0).1 1 else if c = nI 3 then (a.1 0).1 2 else if c = nI 4 then itr (fun t x => x + fLoss ((a.1 0).2 0 t) ((a.1 0).2 1 t)) (nO (a.1 0)) 0 (nI 0) else if c = nI 5 then nI (a.2.2 2) else if c = nI 6 then nI (a.2.2 1) else if c = nI 7 then nI (a.2.2 3) else Int32.ofInt (-9)) := by
        rcases fIn_F (bI_0.mp c8) with q | ⟨q1, q2⟩
        · rw [if_pos q]
        · rw [if_neg q1, if_pos q2]
      rw [e9, if_neg s24_0, if_neg s24_1, if_neg s24_2, if_neg s24_3, if_neg s24_4, if_neg s24_5, if_neg s24_6, if_pos s24_7] at hK
      rw [← hM.2.2.2.2.2.1] at hK
      exact hK
    conv => whnf
    refine b_X12_count [94] ?_
    conv => whnf
    have e9 : (if c ≤ nI 10 then (if c = nI 0 then (a.1 0).1 0 else if c = nI 1 then (a.1 0).1 3 else if c = nI 2 then (a.1 0).1 1 else if c = nI 3 then (a.1 0).1 2 else if c = nI 4 then itr (fun t x => x + fLoss ((a.1 0).2 0 t) ((a.1 0).2 1 t)) (nO (a.1 0)) 0 (nI 0) else if c = nI 5 then nI (a.2.2 2) else if c = nI 6 then nI (a.2.2 1) else if c = nI 7 then nI (a.2.2 3) else Int32.ofInt (-9)) else if nI 16 < c then (if c = nI 0 then (a.1 0).1 0 else if c = nI 1 then (a.1 0).1 3 else if c = nI 2 then (a.1 0).1 1 else if c = nI 3 then (a.1 0).1 2 else if c = nI 4 then itr (fun t x => x + fLoss ((a.1 0).2 0 t) ((a.1 0).2 1 t)) (nO (a.1 0)) 0 (nI 0) else if c = nI 5 then nI (a.2.2 2) else if c = nI 6 then nI (a.2.2 1) else if c = nI 7 then nI (a.2.2 3) else Int32.ofInt (-9)) else a.2.1 0 (c - nI 10).toNatClampNeg) = (if c = nI 0 then (a.1 0).1 0 else if c = nI 1 then (a.1 0).1 3 else if c = nI 2 then (a.1 0).1 1 else if c = nI 3 then (a.1 0).1 2 else if c = nI 4 then itr (fun t x => x + fLoss ((a.1 0).2 0 t) ((a.1 0).2 1 t)) (nO (a.1 0)) 0 (nI 0) else if c = nI 5 then nI (a.2.2 2) else if c = nI 6 then nI (a.2.2 1) else if c = nI 7 then nI (a.2.2 3) else Int32.ofInt (-9)) := by
      rcases fIn_F (bI_0.mp c8) with q | ⟨q1, q2⟩
      · rw [if_pos q]
      · rw [if_neg q1, if_pos q2]
    rw [e9, if_neg s24_0, if_neg s24_1, if_neg s24_2, if_neg s24_3, if_neg s24_4, if_neg s24_5, if_neg s24_6, if_neg s24_7] at hK
    exact hK
  · conv => whnf
    refine ⟨(cnt_in (fIn_T (bI_n0.mp c8)).1 (fIn_T (bI_n0.mp c8)).2), ?_⟩
    conv => whnf
    obtain ⟨q1, q2⟩ := fIn_T (bI_n0.mp c8)
    rw [if_neg q1, if_neg q2] at hK
    have hv := cnt_in q1 q2
    rw [hM.2.1 _ (by unfold vp_in at hv; omega)]
    exact hK
theorem full_T {z : Int32} {q b : Nat} (h : z = nI q ∧ q ≤ b ∧ b < 100) (c : z = nI b) : fAbove (nI q + nI 1) (nI b) = Int32.ofInt (-6) := by
  obtain ⟨rfl, h1, h2⟩ := h
  have := (nI_eq (by omega) (by omega)).mp c
  subst this
  rw [nI_add]
  exact ab_T (nI_lt (by omega) (by omega))
theorem full_F {z : Int32} {q b : Nat} (h : z = nI q ∧ q ≤ b ∧ b < 100) (c : ¬ z = nI b) : fAbove (nI q + nI 1) (nI b) = 0 := by
  obtain ⟨rfl, h1, h2⟩ := h
  have : q ≠ b := fun z => c (by rw [z])
  rw [nI_add]
  exact ab_P (nI_le (by omega) (by omega))
theorem mr_row {a : Ab} {m : MS} (h : MR a m) (x : Int32) : MR (rowA a (a.2.2 1 + 1) (upd (a.2.1 1) (a.2.2 1) x)) (setA (setI m 24 (nI (a.2.2 1 + 1))) 11 (upd (m.2 11) (a.2.2 1) x)) := by
  obtain ⟨a1, a2, a3, a4, a5, a6, a7⟩ := h
  have e : ∀ j, j ≠ 24 → (setI m 24 (nI (a.2.2 1 + 1))).1 j = m.1 j := fun j hj => if_neg hj
  refine ⟨⟨fun i hi => (e (i + 5) (by omega)).trans (a1.1 i hi), fun i hi => ?_⟩, a2, ⟨rfl, fun j hj => ?_⟩, a4, a5, a6, a7⟩
  · show ag8 (va_up m.2 11 (upd (m.2 11) (a.2.2 1) x) (i + 1)) _
    unfold va_up
    rw [if_neg (by omega)]
    exact a1.2 i hi
  · have hj : j < a.2.2 1 + 1 := hj
    show upd (m.2 11) (a.2.2 1) x j = upd (a.2.1 1) (a.2.2 1) x j
    unfold upd
    by_cases q : j = a.2.2 1
    · rw [if_pos q, if_pos q]
    · rw [if_neg q, if_neg q]; exact a3.2 j (by omega)
theorem mr_let {a : Ab} {m : MS} (h : MR a m) (x : Int32) : MR (letA a (a.2.2 2 + 1) (upd (a.2.1 2) (a.2.2 2) x)) (setA (setI m 13 (nI (a.2.2 2 + 1))) 5 (upd (m.2 5) (a.2.2 2) x)) := by
  obtain ⟨a1, a2, a3, a4, a5, a6, a7⟩ := h
  have e : ∀ j, j ≠ 13 → (setI m 13 (nI (a.2.2 2 + 1))).1 j = m.1 j := fun j hj => if_neg hj
  refine ⟨⟨fun i hi => (e (i + 5) (by omega)).trans (a1.1 i hi), fun i hi => ?_⟩, a2, a3, ⟨rfl, fun j hj => ?_⟩, a5, a6, a7⟩
  · show ag8 (va_up m.2 5 (upd (m.2 5) (a.2.2 2) x) (i + 1)) _
    unfold va_up
    rw [if_neg (by omega)]
    exact a1.2 i hi
  · have hj : j < a.2.2 2 + 1 := hj
    show upd (m.2 5) (a.2.2 2) x j = upd (a.2.1 2) (a.2.2 2) x j
    unfold upd
    by_cases q : j = a.2.2 2
    · rw [if_pos q, if_pos q]
    · rw [if_neg q, if_neg q]; exact a4.2 j (by omega)
theorem mr_row0 {a : Ab} {m : MS} (h : MR a m) : MR (rowA a 0 (a.2.1 1)) (setI m 24 (nI 0)) := by
  obtain ⟨a1, a2, a3, a4, a5, a6, a7⟩ := h
  have e : ∀ j, j ≠ 24 → (setI m 24 (nI 0)).1 j = m.1 j := fun j hj => if_neg hj
  exact ⟨⟨fun i hi => (e (i + 5) (by omega)).trans (a1.1 i hi), a1.2⟩, a2, ⟨rfl, fun j hj => absurd (show j < 0 from hj) (by omega)⟩, a4, a5, a6, a7⟩
theorem full_U {z x : Int32} {q b : Nat} (h : z = nI q ∧ q ≤ b ∧ b < 100) : True := trivial
theorem m_row {a : Ab} {m : MS} {s : S3} {x : Int32} (hI : Inv a) (hM : MR a m)  {K : Option Value → AH → Prop} (h1 : ¬ (fFirst (fFirst (fBelow x (nI 0)) (fAbove x (nI 99))) (fAbove (nI (a.2.2 1) + nI 1) (nI 12))) = 0 → ∀ m2 (s2 : S3), MR (qB a (fFirst (fFirst (fBelow x (nI 0)) (fAbove x (nI 99))) (fAbove (nI (a.2.2 1) + nI 1) (nI 12)))) m2 → K (some (.int (fFirst (fFirst (fBelow x (nI 0)) (fAbove x (nI 99))) (fAbove (nI (a.2.2 1) + nI 1) (nI 12))))) (mC m2 s2.1 s2.2.2)) (h0 : (fFirst (fFirst (fBelow x (nI 0)) (fAbove x (nI 99))) (fAbove (nI (a.2.2 1) + nI 1) (nI 12))) = 0 → ∀ m2 (s2 : S3), MR (rowA a (a.2.2 1 + 1) (upd (a.2.1 1) (a.2.2 1) x)) m2 → K (some (.int (nI (a.2.2 1 + 1)))) (mC m2 s2.1 s2.2.2)) : am_M i_X12_row [.ref 0, .int x] (mC m s.1 s.2.2) K := by
  have h := hM.x hI
  have hn := hI.n
  have hn8 := hI.n8
  have hfull : m.1 24 = nI (a.2.2 1) ∧ a.2.2 1 ≤ 12 ∧ 12 < 100 := ⟨hM.2.2.1.1, hI.2.2.2.1, by decide⟩
  refine e_X12_row [] ?_
  conv => whnf
  refine m_bound ?_
  rw [fBound_F]
  refine b_X12_row [] ?_
  conv => whnf
  refine ⟨fun c9 => ?_, fun c9 => ?_⟩
  · conv => whnf
    refine ⟨fun c18 => ?_, fun c18 => ?_⟩
    · conv => whnf
      refine ⟨fun c25 => absurd c25 (by decide), fun c25 => ?_⟩
      conv => whnf
      refine m_no (x := (Int32.ofInt (-6))) (by first | (unfold rfs; decide) | exact fNoBlow_r (by assumption) | exact fFirst_r fNoTh_r fNoTh_r (by assumption) | exact fFirst_r fBelow_r fAbove_r (by assumption)) ?_
      refine b_X12_row [] ?_
      conv => whnf
      have e0 : (fFirst (fFirst (fBelow x (nI 0)) (fAbove x (nI 99))) (fAbove (nI (a.2.2 1) + nI 1) (nI 12))) = (Int32.ofInt (-6)) := (fF0 c9 (full_T hfull c18))
      rw [e0] at h1
      exact h1 (rfs_n (by first | (unfold rfs; decide) | exact fNoBlow_r (by assumption) | exact fFirst_r fNoTh_r fNoTh_r (by assumption) | exact fFirst_r fBelow_r fAbove_r (by assumption))) _ s (hM.bump (by first | (unfold rfs; decide) | exact fNoBlow_r (by assumption) | exact fFirst_r fNoTh_r fNoTh_r (by assumption) | exact fFirst_r fBelow_r fAbove_r (by assumption)))
    · refine b_X12_row [] ?_
      conv => whnf
      refine ⟨fun c25 => ?_, fun c25 => absurd c9 c25⟩
      refine b_X12_row [] ?_
      conv => whnf
      have r0 : (fFirst (fFirst (fBelow x (nI 0)) (fAbove x (nI 99))) (fAbove (nI (a.2.2 1) + nI 1) (nI 12))) = 0 := (fF0 c9 (full_F hfull c18))
      have h9 := h0 r0
      obtain ⟨r2a, r2b⟩ := fFirst_0 r0
      obtain ⟨r3a, r3b⟩ := fFirst_0 r2a
      have lx := r3a
      have gx := r3b
      have hlt : a.2.2 1 < 12 := Nat.lt_of_le_of_ne hI.2.2.2.1 (fun z => c18 (by rw [hM.2.2.1.1, z]))
      have e24 := hM.2.2.1.1
      have e25 : (m.1 24).toNatClampNeg = a.2.2 1 := by rw [e24]; exact nI_clamp (by omega)
      refine ⟨(by rw [e24]; exact vp_in_nI hlt (by decide)), ?_⟩
      rw [e25]
      conv => whnf
      have e26 : m.1 24 + nI 1 = nI (a.2.2 1 + 1) := by rw [e24, nI_add]
      rw [e26]
      exact h9 _ s (mr_row hM x)
  · refine b_X12_row [] ?_
    conv => whnf
    refine ⟨fun c25 => absurd c25 c9, fun c25 => ?_⟩
    conv => whnf
    refine m_no (x := (fFirst (fBelow x (nI 0)) (fAbove x (nI 99)))) (by first | (unfold rfs; decide) | exact fNoBlow_r (by assumption) | exact fFirst_r fNoTh_r fNoTh_r (by assumption) | exact fFirst_r fBelow_r fAbove_r (by assumption)) ?_
    refine b_X12_row [] ?_
    conv => whnf
    have e0 : (fFirst (fFirst (fBelow x (nI 0)) (fAbove x (nI 99))) (fAbove (nI (a.2.2 1) + nI 1) (nI 12))) = (fFirst (fBelow x (nI 0)) (fAbove x (nI 99))) := (fFn rfl (rfs_n (by first | (unfold rfs; decide) | exact fNoBlow_r (by assumption) | exact fFirst_r fNoTh_r fNoTh_r (by assumption) | exact fFirst_r fBelow_r fAbove_r (by assumption))))
    rw [e0] at h1
    exact h1 (rfs_n (by first | (unfold rfs; decide) | exact fNoBlow_r (by assumption) | exact fFirst_r fNoTh_r fNoTh_r (by assumption) | exact fFirst_r fBelow_r fAbove_r (by assumption))) _ s (hM.bump (by first | (unfold rfs; decide) | exact fNoBlow_r (by assumption) | exact fFirst_r fNoTh_r fNoTh_r (by assumption) | exact fFirst_r fBelow_r fAbove_r (by assumption)))
theorem m_feed {a : Ab} {m : MS} {s : S3} {x : Int32} (hI : Inv a) (hM : MR a m)  {K : Option Value → AH → Prop} (h1 : ¬ (fFirst (fFirst (fBelow x (nI 0)) (fAbove x (nI 255))) (fAbove (nI (a.2.2 2) + nI 1) (nI 96))) = 0 → ∀ m2 (s2 : S3), MR (qB a (fFirst (fFirst (fBelow x (nI 0)) (fAbove x (nI 255))) (fAbove (nI (a.2.2 2) + nI 1) (nI 96)))) m2 → K (some (.int (fFirst (fFirst (fBelow x (nI 0)) (fAbove x (nI 255))) (fAbove (nI (a.2.2 2) + nI 1) (nI 96))))) (mC m2 s2.1 s2.2.2)) (h0 : (fFirst (fFirst (fBelow x (nI 0)) (fAbove x (nI 255))) (fAbove (nI (a.2.2 2) + nI 1) (nI 96))) = 0 → ∀ m2 (s2 : S3), MR (letA a (a.2.2 2 + 1) (upd (a.2.1 2) (a.2.2 2) x)) m2 → K (some (.int (nI (a.2.2 2 + 1)))) (mC m2 s2.1 s2.2.2)) : am_M i_X12_feed [.ref 0, .int x] (mC m s.1 s.2.2) K := by
  have h := hM.x hI
  have hn := hI.n
  have hn8 := hI.n8
  have hfull : m.1 13 = nI (a.2.2 2) ∧ a.2.2 2 ≤ 96 ∧ 96 < 100 := ⟨hM.2.2.2.1.1, hI.2.2.2.2.1, by decide⟩
  refine e_X12_feed [] ?_
  conv => whnf
  refine m_bound ?_
  rw [fBound_F]
  refine b_X12_feed [] ?_
  conv => whnf
  refine ⟨fun c10 => ?_, fun c10 => ?_⟩
  · conv => whnf
    refine ⟨fun c19 => ?_, fun c19 => ?_⟩
    · conv => whnf
      refine ⟨fun c26 => absurd c26 (by decide), fun c26 => ?_⟩
      conv => whnf
      refine m_no (x := (Int32.ofInt (-6))) (by first | (unfold rfs; decide) | exact fNoBlow_r (by assumption) | exact fFirst_r fNoTh_r fNoTh_r (by assumption) | exact fFirst_r fBelow_r fAbove_r (by assumption)) ?_
      refine b_X12_feed [] ?_
      conv => whnf
      have e0 : (fFirst (fFirst (fBelow x (nI 0)) (fAbove x (nI 255))) (fAbove (nI (a.2.2 2) + nI 1) (nI 96))) = (Int32.ofInt (-6)) := (fF0 c10 (full_T hfull c19))
      rw [e0] at h1
      exact h1 (rfs_n (by first | (unfold rfs; decide) | exact fNoBlow_r (by assumption) | exact fFirst_r fNoTh_r fNoTh_r (by assumption) | exact fFirst_r fBelow_r fAbove_r (by assumption))) _ s (hM.bump (by first | (unfold rfs; decide) | exact fNoBlow_r (by assumption) | exact fFirst_r fNoTh_r fNoTh_r (by assumption) | exact fFirst_r fBelow_r fAbove_r (by assumption)))
    · refine b_X12_feed [] ?_
      conv => whnf
      refine ⟨fun c26 => ?_, fun c26 => absurd c10 c26⟩
      refine b_X12_feed [] ?_
      conv => whnf
      have r0 : (fFirst (fFirst (fBelow x (nI 0)) (fAbove x (nI 255))) (fAbove (nI (a.2.2 2) + nI 1) (nI 96))) = 0 := (fF0 c10 (full_F hfull c19))
      have h9 := h0 r0
      obtain ⟨r4a, r4b⟩ := fFirst_0 r0
      obtain ⟨r5a, r5b⟩ := fFirst_0 r4a
      have lx := r5a
      have gx := r5b
      have hlt : a.2.2 2 < 96 := Nat.lt_of_le_of_ne hI.2.2.2.2.1 (fun z => c19 (by rw [hM.2.2.2.1.1, z]))
      have e24 := hM.2.2.2.1.1
      have e25 : (m.1 13).toNatClampNeg = a.2.2 2 := by rw [e24]; exact nI_clamp (by omega)
      refine ⟨(by rw [e24]; exact vp_in_nI hlt (by decide)), ?_⟩
      rw [e25]
      conv => whnf
      have e26 : m.1 13 + nI 1 = nI (a.2.2 2 + 1) := by rw [e24, nI_add]
      rw [e26]
      exact h9 _ s (mr_let hM x)
  · refine b_X12_feed [] ?_
    conv => whnf
    refine ⟨fun c26 => absurd c26 c10, fun c26 => ?_⟩
    conv => whnf
    refine m_no (x := (fFirst (fBelow x (nI 0)) (fAbove x (nI 255)))) (by first | (unfold rfs; decide) | exact fNoBlow_r (by assumption) | exact fFirst_r fNoTh_r fNoTh_r (by assumption) | exact fFirst_r fBelow_r fAbove_r (by assumption)) ?_
    refine b_X12_feed [] ?_
    conv => whnf
    have e0 : (fFirst (fFirst (fBelow x (nI 0)) (fAbove x (nI 255))) (fAbove (nI (a.2.2 2) + nI 1) (nI 96))) = (fFirst (fBelow x (nI 0)) (fAbove x (nI 255))) := (fFn rfl (rfs_n (by first | (unfold rfs; decide) | exact fNoBlow_r (by assumption) | exact fFirst_r fNoTh_r fNoTh_r (by assumption) | exact fFirst_r fBelow_r fAbove_r (by assumption))))
    rw [e0] at h1
    exact h1 (rfs_n (by first | (unfold rfs; decide) | exact fNoBlow_r (by assumption) | exact fFirst_r fNoTh_r fNoTh_r (by assumption) | exact fFirst_r fBelow_r fAbove_r (by assumption))) _ s (hM.bump (by first | (unfold rfs; decide) | exact fNoBlow_r (by assumption) | exact fFirst_r fNoTh_r fNoTh_r (by assumption) | exact fFirst_r fBelow_r fAbove_r (by assumption)))
theorem m_clear {a : Ab} {m : MS} {s : S3}  (hI : Inv a) (hM : MR a m)  {K : Option Value → AH → Prop} (hK : ∀ m2 (s2 : S3), MR (rowA a 0 (a.2.1 1)) m2 → K (some (.int (nI (a.2.2 1)))) (mC m2 s2.1 s2.2.2)) : am_M i_X12_clear [.ref 0] (mC m s.1 s.2.2) K := by
  have h := hM.x hI
  have hn := hI.n
  have hn8 := hI.n8
  refine e_X12_clear [] ?_
  conv => whnf
  rw [hM.2.2.1.1]
  exact hK (setI m 24 (nI 0)) s (mr_row0 hM)
theorem ml_jud {m : MS} {w : WS} {n : Nat} {A P : Nat → Nat} {s : S3} {q : Nat} {f : Nat → Int32} (hq : q ≤ 12) (hrow : ∀ j, j < q → m.2 11 j = f j) {K : Option Value → AH → Prop} (h : mX m w n A P) : ∀ (k i : Nat) , i + k = q → (K (some (.int (judF f (w.2 3) n k i))) (mC (setI m 24 (nI 0)) s.1 s.2.2)) → am_E i_X12_judge 12 [some (.ref 0), some (.int (nI q)), some (.int (nI i))] [] (mC (setI m 24 (nI 0)) s.1 s.2.2) K := by
  intro k
  induction k with
  | zero =>
    intro i  hi hK
    obtain rfl : i = q := by omega
    refine b_X12_judge [12] ?_
    conv => whnf
    refine ⟨fun c14 => ?_, fun c14 => absurd (nI_le (Nat.le_refl _) (by omega)) c14⟩
    refine b_X12_judge [12] ?_
    conv => whnf
    exact hK
  | succ k ih =>
    intro i  hi hK
    have hn8 := h.n8
    refine b_X12_judge [12] ?_
    conv => whnf
    refine ⟨fun c14 => absurd c14 (nI_ge (by omega) (by omega)), fun c14 => ?_⟩
    conv => whnf
    refine ⟨fun c22 => ?_, fun c22 => ?_⟩
    · refine b_X12_judge [12] ?_
      conv => whnf
      have hle : n ≤ i := (nI_leI (by omega) (by omega)).mp (by have c23 : m.1 5 ≤ nI i := c22; rw [h.n] at c23; exact c23)
      rw [judF, if_pos hle] at hK
      exact hK
    · conv => whnf
      have hlt : ¬ n ≤ i := fun z => c22 (by show m.1 5 ≤ nI i; rw [h.n]; exact nI_le z (by omega))
      refine ⟨(vp_in_nI (show i < 8 by omega) (by decide)), ?_⟩
      conv => whnf
      rw [nI_clamp (show i < 2 ^ 31 by omega)]
      refine ⟨(vp_in_nI (show i < 12 by omega) (by decide)), ?_⟩
      conv => whnf
      refine ⟨fun c37 => ?_, fun c37 => ?_⟩
      · refine b_X12_judge [12] ?_
        conv => whnf
        rw [judF, if_neg hlt, if_pos (show w.2 3 i = f i from by rw [← h.w (by omega), ← hrow i (by omega)]; exact c37)] at hK
        have h2 := ih (i + 1) (by omega) hK
        rw [← nI_add i 1] at h2
        exact h2
      · conv => whnf
        rw [judF, if_neg hlt, if_neg (show ¬ w.2 3 i = f i from by rw [← h.w (by omega), ← hrow i (by omega)]; exact c37)] at hK
        exact hK
theorem m_judge {a : Ab} {m : MS} {s : S3}  (hI : Inv a) (hM : MR a m)  {K : Option Value → AH → Prop} (hK : ∀ m2 (s2 : S3), MR (rowA a 0 (a.2.1 1)) m2 → K (some (.int (judF (a.2.1 1) ((a.1 0).2 3) (nO (a.1 0)) (a.2.2 1) 0))) (mC m2 s2.1 s2.2.2)) : am_M i_X12_judge [.ref 0] (mC m s.1 s.2.2) K := by
  have h := hM.x hI
  have hn := hI.n
  have hn8 := hI.n8
  refine e_X12_judge [12] ?_
  conv => whnf
  rw [hM.2.2.1.1]
  exact ml_jud hI.2.2.2.1 hM.2.2.1.2 h (a.2.2 1) 0 (by omega) (hK (setI m 24 (nI 0)) s (mr_row0 hM))
