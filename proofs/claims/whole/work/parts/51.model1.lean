/-! SPECS of the model: questions of one thing -/
theorem th_T {t x : Int32} (c : bI (fIsTh t x) = 0) : fNoTh t x = Int32.ofInt (-1) := by rw [fNoTh_if, if_neg (by rw [bI_0.mp c]; decide)]
theorem th_F {t x : Int32} (c : ¬ bI (fIsTh t x) = 0) : fNoTh t x = 0 := by rw [fNoTh_if, if_pos (bI_n0.mp c)]
theorem in_T {x k : Int32} (c : bI (fIn x (nI 0) k) = 0) : fUnk x k = Int32.ofInt (-2) := by rw [fUnk_if, if_neg (by rw [bI_0.mp c]; decide)]
theorem in_F {x k : Int32} (c : ¬ bI (fIn x (nI 0) k) = 0) : fUnk x k = 0 := by rw [fUnk_if, if_pos (bI_n0.mp c)]
theorem be_T {x k : Int32} (c : x < k) : fBelow x k = Int32.ofInt (-4) := if_neg (Int32.not_le.mpr c)
theorem be_F {x k : Int32} (c : ¬ x < k) : fBelow x k = 0 := (if_pos (Int32.not_lt.mp c)).trans nI_0
theorem be_P {x k : Int32} (c : k ≤ x) : fBelow x k = 0 := (if_pos c).trans nI_0
theorem be_Q {x k : Int32} (c : ¬ k ≤ x) : fBelow x k = Int32.ofInt (-4) := if_neg c
theorem ab_T {x k : Int32} (c : k < x) : fAbove x k = Int32.ofInt (-6) := if_neg (Int32.not_le.mpr c)
theorem ab_F {x k : Int32} (c : ¬ k < x) : fAbove x k = 0 := (if_pos (Int32.not_lt.mp c)).trans nI_0
theorem ab_P {x k : Int32} (c : x ≤ k) : fAbove x k = 0 := (if_pos c).trans nI_0
theorem ab_Q {x k : Int32} (c : ¬ x ≤ k) : fAbove x k = Int32.ofInt (-6) := if_neg c
theorem rt_T {a : Ab} {m : MS} (hM : MR a m) (c : m.1 24 ≤ m.1 5) : (if nI (a.2.2 1) ≤ (a.1 0).1 0 then nI 0 else Int32.ofInt (-3)) = 0 := by
  rw [hM.n, hM.2.2.1.1] at c
  rw [if_pos c, nI_0]
theorem rt_F {a : Ab} {m : MS} (hM : MR a m) (c : ¬ m.1 24 ≤ m.1 5) : (if nI (a.2.2 1) ≤ (a.1 0).1 0 then nI 0 else Int32.ofInt (-3)) = Int32.ofInt (-3) := by
  rw [hM.n, hM.2.2.1.1] at c
  rw [if_neg c]
theorem fF0 {a b x : Int32} (h : a = 0) (h2 : b = x) : fFirst a b = x := by rw [fFirst, if_pos h, h2]
theorem fFn {a b x : Int32} (h : a = x) (hx : ¬ x = 0) : fFirst a b = x := by rw [fFirst, if_neg (by rw [h]; exact hx), h]
theorem nI_mulN (a b : Nat) : nI a * nI b = nI (a * b) := (Int32.ofNat_mul a b).symm
theorem d100 {i : Nat} (h : i < 900) : nI i / nI 100 = nI (i / 100) := by
  have : ∀ i, i < 900 → nI i / nI 100 = nI (i / 100) := by decide +kernel
  exact this i h
theorem r100 {i : Nat} (h : i < 900) : nI i - nI i / nI 100 * nI 100 = nI (i % 100) := by
  have : ∀ i, i < 900 → nI i - nI i / nI 100 * nI 100 = nI (i % 100) := by decide +kernel
  exact this i h
theorem fIn_nI {j a b : Nat} (hj : j < 2 ^ 31) (ha : a < 2 ^ 31) (hb : b < 2 ^ 31) : fIn (nI j) (nI a) (nI b) = decide (a ≤ j ∧ j ≤ b) := by
  unfold fIn
  have h1 : decide (nI j < nI a) = decide (j < a) := by rw [decide_eq_decide]; exact nI_ltI hj ha
  have h2 : decide (nI b < nI j) = decide (b < j) := by rw [decide_eq_decide]; exact nI_ltI hb hj
  rw [h1, h2]
  by_cases q1 : j < a
  · simp [q1]; omega
  · by_cases q2 : b < j
    · simp [q1, q2]
    · simp [q1, q2]; omega
theorem fCut_N {s : Int32} {t : Nat} (h : t < 32) : fCut s (nI t) = bitN s t := by rw [fCut_nI _ _ (by omega), hasB_N _ _ h]
theorem bwI.g {n : Nat} {s : S3} (hb : bwI n s) {t : Nat} (ht : t < 8) : fCut s.2.1 (nI t) = true ↔ 0 < s.1 t := by
  rw [fCut_N (by omega)]
  exact hb.1 t ht
theorem m_gets {a : Ab} {m : MS} {s : S3} {x v y c : Int32} (hI : Inv a) (hM : MR a m)  {K : Option Value → AH → Prop} (hK : ∀ m2 (s2 : S3), MR (qB a (fFirst (fFirst (fFirst (fNoTh ((a.1 0).1 0) x) (fNoTh ((a.1 0).1 0) y)) (fNoBlow v)) (fUnk c (nI 1)))) m2 → K (some (.int (qA (fFirst (fFirst (fFirst (fNoTh ((a.1 0).1 0) x) (fNoTh ((a.1 0).1 0) y)) (fNoBlow v)) (fUnk c (nI 1))) (if c = 0 then (blw (a.1 0) (nO (a.1 0)) ((plW (a.1 0)) x.toNatClampNeg) v).1 y.toNatClampNeg else fJump ((a.1 0).2 0 y.toNatClampNeg) ((blw (a.1 0) (nO (a.1 0)) ((plW (a.1 0)) x.toNatClampNeg) v).1 y.toNatClampNeg))))) (mC m2 s2.1 s2.2.2)) : am_M i_X12_gets [.ref 0, .int x, .int v, .int y, .int c] (mC m s.1 s.2.2) K := by
  have h := hM.x hI
  have hn := hI.n
  have hn8 := hI.n8
  refine e_X12_gets [] ?_
  conv => whnf
  refine m_n2 hM ?_
  refine b_X12_gets [] ?_
  conv => whnf
  refine ⟨fun c10 => ?_, fun c10 => ?_⟩
  · conv => whnf
    refine m_nb ?_
    refine b_X12_gets [] ?_
    conv => whnf
    refine ⟨fun c21 => ?_, fun c21 => ?_⟩
    · conv => whnf
      refine m_isIn ?_
      refine b_X12_gets [] ?_
      conv => whnf
      refine ⟨fun c31 => ?_, fun c31 => ?_⟩
      · conv => whnf
        refine ⟨fun c40 => absurd c40 (by decide), fun c40 => ?_⟩
        conv => whnf
        refine m_no (x := (Int32.ofInt (-2))) (by first | (unfold rfs; decide) | exact fNoBlow_r (by assumption) | exact fFirst_r fNoTh_r fNoTh_r (by assumption)) ?_
        refine b_X12_gets [] ?_
        conv => whnf
        have e0 : (fFirst (fFirst (fFirst (fNoTh ((a.1 0).1 0) x) (fNoTh ((a.1 0).1 0) y)) (fNoBlow v)) (fUnk c (nI 1))) = (Int32.ofInt (-2)) := (fF0 (fF0 c10 c21) (in_T c31))
        rw [e0, qA_n (rfs_n (by first | (unfold rfs; decide) | exact fNoBlow_r (by assumption) | exact fFirst_r fNoTh_r fNoTh_r (by assumption)))] at hK
        exact hK _ s (hM.bump (by first | (unfold rfs; decide) | exact fNoBlow_r (by assumption) | exact fFirst_r fNoTh_r fNoTh_r (by assumption)))
      · refine b_X12_gets [] ?_
        conv => whnf
        refine ⟨fun c40 => ?_, fun c40 => absurd c21 c40⟩
        refine b_X12_gets [] ?_
        conv => whnf
        have r0 : (fFirst (fFirst (fFirst (fNoTh ((a.1 0).1 0) x) (fNoTh ((a.1 0).1 0) y)) (fNoBlow v)) (fUnk c (nI 1))) = 0 := (fF0 (fF0 c10 c21) (in_F c31))
        rw [qA_0 r0, qB_0 r0] at hK
        obtain ⟨r1a, r1b⟩ := fFirst_0 r0
        obtain ⟨r2a, r2b⟩ := fFirst_0 r1a
        obtain ⟨r3a, r3b⟩ := fFirst_0 r2a
        obtain ⟨x_, hx, rfl⟩ := fNoTh_0 (n := nO (a.1 0)) (by omega) (by rw [← hn]; exact r3a)
        have ex : (nI x_).toNatClampNeg = x_ := nI_clamp (by omega)
        try rw [ex] at hK
        obtain ⟨y_, hy, rfl⟩ := fNoTh_0 (n := nO (a.1 0)) (by omega) (by rw [← hn]; exact r3b)
        have ey : (nI y_).toNatClampNeg = y_ := nI_clamp (by omega)
        try rw [ey] at hK
        obtain ⟨v_, hv1, hv2, rfl⟩ := fNoBlow_0 r2b
        have hv0 : ¬ nI v_ ≤ 0 := v_b hv1 (by omega)
        have uc := r1b
        refine m_fb (m := m) (s := s) h hx hv0 (fun s2 hs2 hb2 => ?_)
        refine b_X12_gets [] ?_
        conv => whnf
        refine ⟨fun c58 => ?_, fun c58 => ?_⟩
        · conv => whnf
          refine ⟨(vp_in_nI (show y_ < 8 by omega) (by decide)), ?_⟩
          conv => whnf
          rw [ey]
          refine b_X12_gets [] ?_
          conv => whnf
          rw [if_pos c58, ← hs2.1 y_ (by omega)] at hK
          exact hK m s2 hM
        · refine b_X12_gets [] ?_
          conv => whnf
          refine ⟨(vp_in_nI (show y_ < 8 by omega) (by decide)), ?_⟩
          conv => whnf
          rw [ey]
          refine m_jm h hb2 (by omega) ?_
          refine b_X12_gets [] ?_
          conv => whnf
          rw [if_neg c58, ← hs2.1 y_ (by omega)] at hK
          exact hK m s2 hM
    · refine b_X12_gets [] ?_
      conv => whnf
      refine ⟨fun c40 => absurd c40 c21, fun c40 => ?_⟩
      conv => whnf
      refine m_no (x := (fNoBlow v)) (by first | (unfold rfs; decide) | exact fNoBlow_r (by assumption) | exact fFirst_r fNoTh_r fNoTh_r (by assumption)) ?_
      refine b_X12_gets [] ?_
      conv => whnf
      have e0 : (fFirst (fFirst (fFirst (fNoTh ((a.1 0).1 0) x) (fNoTh ((a.1 0).1 0) y)) (fNoBlow v)) (fUnk c (nI 1))) = (fNoBlow v) := (fFn (fF0 c10 rfl) (rfs_n (by first | (unfold rfs; decide) | exact fNoBlow_r (by assumption) | exact fFirst_r fNoTh_r fNoTh_r (by assumption))))
      rw [e0, qA_n (rfs_n (by first | (unfold rfs; decide) | exact fNoBlow_r (by assumption) | exact fFirst_r fNoTh_r fNoTh_r (by assumption)))] at hK
      exact hK _ s (hM.bump (by first | (unfold rfs; decide) | exact fNoBlow_r (by assumption) | exact fFirst_r fNoTh_r fNoTh_r (by assumption)))
  · refine b_X12_gets [] ?_
    conv => whnf
    refine ⟨fun c21 => absurd c21 c10, fun c21 => ?_⟩
    refine b_X12_gets [] ?_
    conv => whnf
    refine ⟨fun c40 => absurd c40 c10, fun c40 => ?_⟩
    conv => whnf
    refine m_no (x := (fFirst (fNoTh ((a.1 0).1 0) x) (fNoTh ((a.1 0).1 0) y))) (by first | (unfold rfs; decide) | exact fNoBlow_r (by assumption) | exact fFirst_r fNoTh_r fNoTh_r (by assumption)) ?_
    refine b_X12_gets [] ?_
    conv => whnf
    have e0 : (fFirst (fFirst (fFirst (fNoTh ((a.1 0).1 0) x) (fNoTh ((a.1 0).1 0) y)) (fNoBlow v)) (fUnk c (nI 1))) = (fFirst (fNoTh ((a.1 0).1 0) x) (fNoTh ((a.1 0).1 0) y)) := (fFn (fFn rfl (rfs_n (by first | (unfold rfs; decide) | exact fNoBlow_r (by assumption) | exact fFirst_r fNoTh_r fNoTh_r (by assumption)))) (rfs_n (by first | (unfold rfs; decide) | exact fNoBlow_r (by assumption) | exact fFirst_r fNoTh_r fNoTh_r (by assumption))))
    rw [e0, qA_n (rfs_n (by first | (unfold rfs; decide) | exact fNoBlow_r (by assumption) | exact fFirst_r fNoTh_r fNoTh_r (by assumption)))] at hK
    exact hK _ s (hM.bump (by first | (unfold rfs; decide) | exact fNoBlow_r (by assumption) | exact fFirst_r fNoTh_r fNoTh_r (by assumption)))
def farI (a b : Int32) : Int32 := fFar a b
theorem fFar_abs {i j : Nat} (hi : i < 8) (hj : j < 8) : fFar (nI i) (nI j) = absI (nI i - nI j) := by
  have : ∀ i, i < 8 → ∀ j, j < 8 → fFar (nI i) (nI j) = absI (nI i - nI j) := by decide +kernel
  exact this i hi j hj
theorem abs_ge {i j : Nat} (hi : i < 8) (hj : j < 8) : ¬ absI (nI i - nI j) ≤ Int32.ofInt (-1) := by
  have : ∀ i, i < 8 → ∀ j, j < 8 → ¬ absI (nI i - nI j) ≤ Int32.ofInt (-1) := by decide +kernel
  exact this i hi j hj
/-- the state of the search: none, or a place and its way -/
def farR (f : Nat) (q : Int32 × Int32) : Prop := q = (Int32.ofInt (-9), Int32.ofInt (-1)) ∨ ∃ j, j < 8 ∧ q = (nI j, absI (nI j - nI f))
theorem ml_far {m : MS} {w : WS} {n : Nat} {A P : Nat → Nat} {s : S3} {f : Nat} (hf : f < 8) (hb : bwI n s) {K : Option Value → AH → Prop} (h : mX m w n A P) : ∀ (k i : Nat) (q : Int32 × Int32) (hr : farR f q), i + k = n → (K (some (.int (itr (fFarS w s (nI f)) k i q).1)) (mC m s.1 s.2.2)) → am_E i_X12_farthestFrom 5 [some (.ref 0), some (.int (nI f)), some (.int (q.1)), some (.int (nI i))] [] (mC m s.1 s.2.2) K := by
  intro k
  induction k with
  | zero =>
    intro i q hr hi hK
    obtain rfl : i = n := by omega
    refine b_X12_farthestFrom [5] ?_
    conv => whnf
    refine ⟨fun c10 => ?_, fun c10 => absurd (by rw [h.n]; exact nI_le (Nat.le_refl _) (by have := h.n8; omega)) c10⟩
    refine b_X12_farthestFrom [5] ?_
    conv => whnf
    exact hK
  | succ k ih =>
    intro i q hr hi hK
    have hA := h.wA (show i < n by omega)
    have ha : w.2 3 i = nI (A i) := (h.2.2.2.1 i (by omega)).1
    refine b_X12_farthestFrom [5] ?_
    conv => whnf
    refine ⟨fun c10 => absurd c10 (by rw [h.n]; exact nI_ge (by omega) (by have := h.n8; omega)), fun c10 => ?_⟩
    conv => whnf
    refine ⟨(vp_in_nI (by have := h.n8; omega) (by decide)), ?_⟩
    conv => whnf
    rw [nI_clamp (show i < 2 ^ 31 by have := h.n8; omega), hA.1]
    refine ⟨(vp_in_nI (by have := h.n8; omega) (by decide)), ?_⟩
    conv => whnf
    rw [nI_clamp (show A i < 2 ^ 31 by have := h.n8; omega)]
    refine ⟨fun c24 => ?_, fun c24 => ?_⟩
    · refine b_X12_farthestFrom [5] ?_
      conv => whnf
      have e4 : fFarS w s (nI f) i q = q := by
        unfold fFarS
        rw [if_neg (fun z => Int32.not_lt.mpr c24 ((hb.g (by have := h.n8; omega)).mp (by rw [← ha]; exact z)))]
      simp only [itr, e4] at hK
      have h2 := ih (i + 1) q hr (by omega) hK
      rw [← nI_add i 1] at h2
      exact h2
    · conv => whnf
      refine ⟨fun c28 => ?_, fun c28 => ?_⟩
      · refine b_X12_farthestFrom [5] ?_
        conv => whnf
        have hy : fCut s.2.1 (w.2 3 i) = true := by rw [ha]; exact (hb.g (by have := h.n8; omega)).mpr (Int32.not_le.mp c24)
        have e4 : fFarS w s (nI f) i q = (nI i, absI (nI i - nI f)) := by
          unfold fFarS
          rw [if_pos hy]
          rcases hr with rfl | ⟨j, hj, rfl⟩
          · rw [if_neg (abs_ge (by have := h.n8; omega) hf)]
          · exact absurd c28 (nI_pos (by omega))
        simp only [itr, e4] at hK
        have h2 := ih (i + 1) (nI i, absI (nI i - nI f)) (Or.inr ⟨i, by have := h.n8; omega, rfl⟩) (by omega) hK
        rw [← nI_add i 1] at h2
        exact h2
      · conv => whnf
        refine m_far ?_
        refine b_X12_farthestFrom [5] ?_
        conv => whnf
        refine m_far ?_
        refine b_X12_farthestFrom [5] ?_
        conv => whnf
        refine ⟨fun c41 => ?_, fun c41 => ?_⟩
        · refine b_X12_farthestFrom [5] ?_
          conv => whnf
          have hy : fCut s.2.1 (w.2 3 i) = true := by rw [ha]; exact (hb.g (by have := h.n8; omega)).mpr (Int32.not_le.mp c24)
          have e4 : fFarS w s (nI f) i q = q := by
            unfold fFarS
            rw [if_pos hy]
            rcases hr with rfl | ⟨j, hj, rfl⟩
            · exact absurd (by decide) c28
            · rw [fFar_abs (by have := h.n8; omega) hf, fFar_abs hj hf] at c41
              rw [if_pos c41]
          simp only [itr, e4] at hK
          have h2 := ih (i + 1) q hr (by omega) hK
          rw [← nI_add i 1] at h2
          exact h2
        · conv => whnf
          have hy : fCut s.2.1 (w.2 3 i) = true := by rw [ha]; exact (hb.g (by have := h.n8; omega)).mpr (Int32.not_le.mp c24)
          have e4 : fFarS w s (nI f) i q = (nI i, absI (nI i - nI f)) := by
            unfold fFarS
            rw [if_pos hy]
            rcases hr with rfl | ⟨j, hj, rfl⟩
            · exact absurd (by decide) c28
            · rw [fFar_abs (by have := h.n8; omega) hf, fFar_abs hj hf] at c41
              rw [if_neg c41]
          simp only [itr, e4] at hK
          have h2 := ih (i + 1) (nI i, absI (nI i - nI f)) (Or.inr ⟨i, by have := h.n8; omega, rfl⟩) (by omega) hK
          rw [← nI_add i 1] at h2
          exact h2
theorem m_farF {m : MS} {w : WS} {n : Nat} {A P : Nat → Nat} {s : S3} {f : Nat} (h : mX m w n A P) (hf : f < 8) (hb : bwI n s) {K : Option Value → AH → Prop} (hK : K (some (.int ((itr (fFarS w s (nI f)) n 0 (Int32.ofInt (-9), Int32.ofInt (-1))).1))) (mC m s.1 s.2.2)) : am_M i_X12_farthestFrom [.ref 0, .int (nI f)] (mC m s.1 s.2.2) K := by
  refine e_X12_farthestFrom [5] ?_
  conv => whnf
  exact ml_far hf hb h n 0 (Int32.ofInt (-9), Int32.ofInt (-1)) (Or.inl rfl) (by omega) hK
theorem m_blow {a : Ab} {m : MS} {s : S3} {x v c : Int32} (hI : Inv a) (hM : MR a m)  {K : Option Value → AH → Prop} (hK : ∀ m2 (s2 : S3), MR (qB a (fFirst (fFirst (fNoTh ((a.1 0).1 0) x) (fNoBlow v)) (fUnk c (nI 4)))) m2 → K (some (.int (qA (fFirst (fFirst (fNoTh ((a.1 0).1 0) x) (fNoBlow v)) (fUnk c (nI 4))) (if c = nI 0 then (blw (a.1 0) (nO (a.1 0)) ((plW (a.1 0)) x.toNatClampNeg) v).2.1 else if c = nI 1 then (blw (a.1 0) (nO (a.1 0)) ((plW (a.1 0)) x.toNatClampNeg) v).2.2 else if c = nI 2 then fBc (blw (a.1 0) (nO (a.1 0)) ((plW (a.1 0)) x.toNatClampNeg) v).2.1 else if c = nI 3 then itr (fun t z => z + fJump ((a.1 0).2 0 t) ((blw (a.1 0) (nO (a.1 0)) ((plW (a.1 0)) x.toNatClampNeg) v).1 t)) (nO (a.1 0)) 0 (nI 0) else (itr (fFarS (a.1 0) (blw (a.1 0) (nO (a.1 0)) ((plW (a.1 0)) x.toNatClampNeg) v) ((a.1 0).2 4 x.toNatClampNeg)) (nO (a.1 0)) 0 (Int32.ofInt (-9), Int32.ofInt (-1))).1)))) (mC m2 s2.1 s2.2.2)) : am_M i_X12_blow [.ref 0, .int x, .int v, .int c] (mC m s.1 s.2.2) K := by
  have h := hM.x hI
  have hn := hI.n
  have hn8 := hI.n8
  refine e_X12_blow [] ?_
  conv => whnf
  refine m_isTR hM ?_
  refine b_X12_blow [] ?_
  conv => whnf
  refine ⟨fun c5 => ?_, fun c5 => ?_⟩
  · conv => whnf
    refine b_X12_blow [] ?_
    conv => whnf
    refine ⟨fun c20 => absurd c20 (by decide), fun c20 => ?_⟩
    refine b_X12_blow [] ?_
    conv => whnf
    refine ⟨fun c38 => absurd c38 (by decide), fun c38 => ?_⟩
    conv => whnf
    refine m_no (x := (Int32.ofInt (-1))) (by first | (unfold rfs; decide) | exact fNoBlow_r (by assumption) | exact fFirst_r fNoTh_r fNoTh_r (by assumption)) ?_
    refine b_X12_blow [] ?_
    conv => whnf
    have e0 : (fFirst (fFirst (fNoTh ((a.1 0).1 0) x) (fNoBlow v)) (fUnk c (nI 4))) = (Int32.ofInt (-1)) := (fFn (fFn (th_T c5) (rfs_n (by first | (unfold rfs; decide) | exact fNoBlow_r (by assumption) | exact fFirst_r fNoTh_r fNoTh_r (by assumption)))) (rfs_n (by first | (unfold rfs; decide) | exact fNoBlow_r (by assumption) | exact fFirst_r fNoTh_r fNoTh_r (by assumption))))
    rw [e0, qA_n (rfs_n (by first | (unfold rfs; decide) | exact fNoBlow_r (by assumption) | exact fFirst_r fNoTh_r fNoTh_r (by assumption)))] at hK
    exact hK _ s (hM.bump (by first | (unfold rfs; decide) | exact fNoBlow_r (by assumption) | exact fFirst_r fNoTh_r fNoTh_r (by assumption)))
  · refine b_X12_blow [] ?_
    conv => whnf
    refine m_nb ?_
    refine b_X12_blow [] ?_
    conv => whnf
    refine ⟨fun c20 => ?_, fun c20 => ?_⟩
    · conv => whnf
      refine m_isIn ?_
      refine b_X12_blow [] ?_
      conv => whnf
      refine ⟨fun c29 => ?_, fun c29 => ?_⟩
      · conv => whnf
        refine ⟨fun c38 => absurd c38 (by decide), fun c38 => ?_⟩
        conv => whnf
        refine m_no (x := (Int32.ofInt (-2))) (by first | (unfold rfs; decide) | exact fNoBlow_r (by assumption) | exact fFirst_r fNoTh_r fNoTh_r (by assumption)) ?_
        refine b_X12_blow [] ?_
        conv => whnf
        have e0 : (fFirst (fFirst (fNoTh ((a.1 0).1 0) x) (fNoBlow v)) (fUnk c (nI 4))) = (Int32.ofInt (-2)) := (fF0 (fF0 (th_F c5) c20) (in_T c29))
        rw [e0, qA_n (rfs_n (by first | (unfold rfs; decide) | exact fNoBlow_r (by assumption) | exact fFirst_r fNoTh_r fNoTh_r (by assumption)))] at hK
        exact hK _ s (hM.bump (by first | (unfold rfs; decide) | exact fNoBlow_r (by assumption) | exact fFirst_r fNoTh_r fNoTh_r (by assumption)))
      · refine b_X12_blow [] ?_
        conv => whnf
        refine ⟨fun c38 => ?_, fun c38 => absurd c20 c38⟩
        refine b_X12_blow [] ?_
        conv => whnf
        have r0 : (fFirst (fFirst (fNoTh ((a.1 0).1 0) x) (fNoBlow v)) (fUnk c (nI 4))) = 0 := (fF0 (fF0 (th_F c5) c20) (in_F c29))
        rw [qA_0 r0, qB_0 r0] at hK
        obtain ⟨r4a, r4b⟩ := fFirst_0 r0
        obtain ⟨r5a, r5b⟩ := fFirst_0 r4a
        obtain ⟨x_, hx, rfl⟩ := fNoTh_0 (n := nO (a.1 0)) (by omega) (by rw [← hn]; exact r5a)
        have ex : (nI x_).toNatClampNeg = x_ := nI_clamp (by omega)
        try rw [ex] at hK
        obtain ⟨v_, hv1, hv2, rfl⟩ := fNoBlow_0 r5b
        have hv0 : ¬ nI v_ ≤ 0 := v_b hv1 (by omega)
        have uc := r4b
        refine m_fb (m := m) (s := s) h hx hv0 (fun s2 hs2 hb2 => ?_)
        refine b_X12_blow [] ?_
        conv => whnf
        refine ⟨fun (s55_0 : _ = nI 0) => ?_, fun (s55_0 : ¬ _ = nI 0) => ?_⟩
        · conv => whnf
          refine b_X12_blow [] ?_
          conv => whnf
          refine m_wg (s := s2) h hb2 ?_
          refine b_X12_blow [] ?_
          conv => whnf
          rw [if_pos s55_0] at hK
          rw [← hs2.2] at hK
          exact hK m s2 hM
        conv => whnf
        refine ⟨fun (s55_1 : _ = nI 1) => ?_, fun (s55_1 : ¬ _ = nI 1) => ?_⟩
        · conv => whnf
          refine b_X12_blow [] ?_
          conv => whnf
          rw [if_neg s55_0, if_pos s55_1] at hK
          rw [← hs2.2] at hK
          exact hK m s2 hM
        conv => whnf
        refine ⟨fun (s55_2 : _ = nI 2) => ?_, fun (s55_2 : ¬ _ = nI 2) => ?_⟩
        · conv => whnf
          refine b_X12_blow [] ?_
          conv => whnf
          refine m_mg (s := s2) h hb2 ?_
          refine b_X12_blow [] ?_
          conv => whnf
          rw [if_neg s55_0, if_neg s55_1, if_pos s55_2] at hK
          rw [← hs2.2] at hK
          exact hK m s2 hM
        conv => whnf
        refine ⟨fun (s55_3 : _ = nI 3) => ?_, fun (s55_3 : ¬ _ = nI 3) => ?_⟩
        · conv => whnf
          refine b_X12_blow [] ?_
          conv => whnf
          refine m_aj (s := s2) h hb2 ?_
          refine b_X12_blow [] ?_
          conv => whnf
          rw [if_neg s55_0, if_neg s55_1, if_neg s55_2, if_pos s55_3] at hK
          rw [itr_cg (g := fun t z => z + fJump ((a.1 0).2 0 t) (s2.1 t)) _ _ _ (fun j _ h2 z => by rw [hs2.1 j (by omega)])] at hK
          exact hK m s2 hM
        conv => whnf
        refine b_X12_blow [] ?_
        conv => whnf
        refine m_placeOf (m := m) (g := s2.1) (b := s2.2.2) h.ok hx ?_
        refine b_X12_blow [] ?_
        conv => whnf
        refine m_farF (s := s2) h (by have := (h.P hx).1; omega) hb2 ?_
        refine b_X12_blow [] ?_
        conv => whnf
        have e9 : fFarS (a.1 0) (blw (a.1 0) (nO (a.1 0)) (plW (a.1 0) x_) (nI v_)) = fFarS (a.1 0) s2 := by unfold fFarS; rw [hs2.2]
        rw [if_neg s55_0, if_neg s55_1, if_neg s55_2, if_neg s55_3] at hK
        rw [e9, (h.2.2.2.2 x_ hx).1] at hK
        exact hK m s2 hM
    · refine b_X12_blow [] ?_
      conv => whnf
      refine ⟨fun c38 => absurd c38 c20, fun c38 => ?_⟩
      conv => whnf
      refine m_no (x := (fNoBlow v)) (by first | (unfold rfs; decide) | exact fNoBlow_r (by assumption) | exact fFirst_r fNoTh_r fNoTh_r (by assumption)) ?_
      refine b_X12_blow [] ?_
      conv => whnf
      have e0 : (fFirst (fFirst (fNoTh ((a.1 0).1 0) x) (fNoBlow v)) (fUnk c (nI 4))) = (fNoBlow v) := (fFn (fF0 (th_F c5) rfl) (rfs_n (by first | (unfold rfs; decide) | exact fNoBlow_r (by assumption) | exact fFirst_r fNoTh_r fNoTh_r (by assumption))))
      rw [e0, qA_n (rfs_n (by first | (unfold rfs; decide) | exact fNoBlow_r (by assumption) | exact fFirst_r fNoTh_r fNoTh_r (by assumption)))] at hK
      exact hK _ s (hM.bump (by first | (unfold rfs; decide) | exact fNoBlow_r (by assumption) | exact fFirst_r fNoTh_r fNoTh_r (by assumption)))
theorem ml_rea {m : MS} {w : WS} {n : Nat} {A P : Nat → Nat} {t x : Nat} {z3 : Int32} (ht : t < n) (hx : x < 8) {K : Option Value → AH → Prop} (h : mX m w n A P) : ∀ (k i : Nat) (s : S3) (hi0 : 1 ≤ i), i + k = 61 → (∀ s2 : S3, K (some (.int (lstF (fun v => fCut (blw w n (P t) (nI v)).2.1 (nI x)) k i))) (mC m s2.1 s2.2.2)) → am_E i_X12_reaches 20 [some (.ref 0), some (.int (nI t)), some (.int (nI x)), some (.int z3), some (.int (nI i))] [] (mC m s.1 s.2.2) K := by
  intro k
  induction k with
  | zero =>
    intro i s hi0 hi hK
    obtain rfl : i = 61 := by omega
    refine b_X12_reaches [20] ?_
    conv => whnf
    refine ⟨fun c24 => ?_, fun c24 => absurd (nI_lt (by omega) (by omega)) c24⟩
    refine b_X12_reaches [20] ?_
    conv => whnf
    exact hK s
  | succ k ih =>
    intro i s hi0 hi hK
    refine b_X12_reaches [20] ?_
    conv => whnf
    refine ⟨fun c24 => absurd c24 (fun z => absurd ((nI_ltI (by omega) (by omega)).mp z) (by omega)), fun c24 => ?_⟩
    conv => whnf
    refine m_fb (m := m) (s := s) h ht (v_b (by omega) (by omega)) (fun s2 hs2 hb2 => ?_)
    refine b_X12_reaches [20] ?_
    conv => whnf
    refine ⟨(vp_in_nI hx (by decide)), ?_⟩
    conv => whnf
    rw [nI_clamp (show x < 2 ^ 31 by omega)]
    refine ⟨fun c40 => ?_, fun c40 => ?_⟩
    · refine b_X12_reaches [20] ?_
      conv => whnf
      rw [lstF, if_neg (by rw [← hs2.2]; exact fun z => absurd ((hb2.g hx).mp z) (Int32.not_lt.mpr c40))] at hK
      have h2 := ih (i + 1) s2 (by omega) (by omega) hK
      rw [← nI_add i 1] at h2
      exact h2
    · conv => whnf
      rw [lstF, if_pos (by rw [← hs2.2]; exact (hb2.g hx).mpr (Int32.not_le.mp c40))] at hK
      exact hK s2
theorem m_reaches {a : Ab} {m : MS} {s : S3} {x y : Int32} (hI : Inv a) (hM : MR a m)  {K : Option Value → AH → Prop} (hK : ∀ m2 (s2 : S3), MR (qB a (fFirst (fNoTh ((a.1 0).1 0) x) (fNoTh ((a.1 0).1 0) y))) m2 → K (some (.int (qA (fFirst (fNoTh ((a.1 0).1 0) x) (fNoTh ((a.1 0).1 0) y)) (lstF (fun v => fCut (blw (a.1 0) (nO (a.1 0)) ((plW (a.1 0)) x.toNatClampNeg) (nI v)).2.1 (nI y.toNatClampNeg)) 60 1)))) (mC m2 s2.1 s2.2.2)) : am_M i_X12_reaches [.ref 0, .int x, .int y] (mC m s.1 s.2.2) K := by
  have h := hM.x hI
  have hn := hI.n
  have hn8 := hI.n8
  refine e_X12_reaches [20] ?_
  conv => whnf
  refine m_n2 hM ?_
  refine b_X12_reaches [20] ?_
  conv => whnf
  refine ⟨fun c8 => ?_, fun c8 => ?_⟩
  · refine b_X12_reaches [20] ?_
    conv => whnf
    have r0 : (fFirst (fNoTh ((a.1 0).1 0) x) (fNoTh ((a.1 0).1 0) y)) = 0 := c8
    rw [qA_0 r0, qB_0 r0] at hK
    obtain ⟨r6a, r6b⟩ := fFirst_0 r0
    obtain ⟨x_, hx, rfl⟩ := fNoTh_0 (n := nO (a.1 0)) (by omega) (by rw [← hn]; exact r6a)
    have ex : (nI x_).toNatClampNeg = x_ := nI_clamp (by omega)
    try rw [ex] at hK
    obtain ⟨y_, hy, rfl⟩ := fNoTh_0 (n := nO (a.1 0)) (by omega) (by rw [← hn]; exact r6b)
    have ey : (nI y_).toNatClampNeg = y_ := nI_clamp (by omega)
    try rw [ey] at hK
    exact ml_rea hx (by omega) h 60 1 s (by omega) (by omega) (fun s2 => hK m s2 hM)
  · conv => whnf
    refine m_no (x := (fFirst (fNoTh ((a.1 0).1 0) x) (fNoTh ((a.1 0).1 0) y))) (by first | (unfold rfs; decide) | exact fNoBlow_r (by assumption) | exact fFirst_r fNoTh_r fNoTh_r (by assumption)) ?_
    refine b_X12_reaches [20] ?_
    conv => whnf
    have e0 : (fFirst (fNoTh ((a.1 0).1 0) x) (fNoTh ((a.1 0).1 0) y)) = (fFirst (fNoTh ((a.1 0).1 0) x) (fNoTh ((a.1 0).1 0) y)) := rfl
    rw [e0, qA_n (rfs_n (by first | (unfold rfs; decide) | exact fNoBlow_r (by assumption) | exact fFirst_r fNoTh_r fNoTh_r (by assumption)))] at hK
    exact hK _ s (hM.bump (by first | (unfold rfs; decide) | exact fNoBlow_r (by assumption) | exact fFirst_r fNoTh_r fNoTh_r (by assumption)))
theorem ml_brk {m : MS} {w : WS} {n : Nat} {A P : Nat → Nat} {t x : Nat} {z3 : Int32} (ht : t < n) (hx : x < 8) {K : Option Value → AH → Prop} (h : mX m w n A P) : ∀ (k i : Nat) (s : S3) (hi0 : 1 ≤ i), i + k = 61 → (∀ s2 : S3, K (some (.int (lstF (fun v => hasB (blw w n (P t) (nI v)).2.2 (nI x)) k i))) (mC m s2.1 s2.2.2)) → am_E i_X12_breaks 20 [some (.ref 0), some (.int (nI t)), some (.int (nI x)), some (.int z3), some (.int (nI i))] [] (mC m s.1 s.2.2) K := by
  intro k
  induction k with
  | zero =>
    intro i s hi0 hi hK
    obtain rfl : i = 61 := by omega
    refine b_X12_breaks [20] ?_
    conv => whnf
    refine ⟨fun c24 => ?_, fun c24 => absurd (nI_lt (by omega) (by omega)) c24⟩
    refine b_X12_breaks [20] ?_
    conv => whnf
    exact hK s
  | succ k ih =>
    intro i s hi0 hi hK
    refine b_X12_breaks [20] ?_
    conv => whnf
    refine ⟨fun c24 => absurd c24 (fun z => absurd ((nI_ltI (by omega) (by omega)).mp z) (by omega)), fun c24 => ?_⟩
    conv => whnf
    refine m_fb (m := m) (s := s) h ht (v_b (by omega) (by omega)) (fun s2 hs2 hb2 => ?_)
    refine b_X12_breaks [20] ?_
    conv => whnf
    refine m_hs (by omega) ?_
    refine b_X12_breaks [20] ?_
    conv => whnf
    refine ⟨fun c42 => ?_, fun c42 => ?_⟩
    · refine b_X12_breaks [20] ?_
      conv => whnf
      rw [lstF, if_neg (by rw [← hs2.2, bI_0.mp c42]; decide)] at hK
      have h2 := ih (i + 1) s2 (by omega) (by omega) hK
      rw [← nI_add i 1] at h2
      exact h2
    · conv => whnf
      rw [lstF, if_pos (by rw [← hs2.2]; exact bI_n0.mp c42)] at hK
      exact hK s2
theorem m_breaks {a : Ab} {m : MS} {s : S3} {x y : Int32} (hI : Inv a) (hM : MR a m)  {K : Option Value → AH → Prop} (hK : ∀ m2 (s2 : S3), MR (qB a (fFirst (fNoTh ((a.1 0).1 0) x) (fNoTh ((a.1 0).1 0) y))) m2 → K (some (.int (qA (fFirst (fNoTh ((a.1 0).1 0) x) (fNoTh ((a.1 0).1 0) y)) (lstF (fun v => hasB (blw (a.1 0) (nO (a.1 0)) ((plW (a.1 0)) x.toNatClampNeg) (nI v)).2.2 (nI y.toNatClampNeg)) 60 1)))) (mC m2 s2.1 s2.2.2)) : am_M i_X12_breaks [.ref 0, .int x, .int y] (mC m s.1 s.2.2) K := by
  have h := hM.x hI
  have hn := hI.n
  have hn8 := hI.n8
  refine e_X12_breaks [20] ?_
  conv => whnf
  refine m_n2 hM ?_
  refine b_X12_breaks [20] ?_
  conv => whnf
  refine ⟨fun c8 => ?_, fun c8 => ?_⟩
  · refine b_X12_breaks [20] ?_
    conv => whnf
    have r0 : (fFirst (fNoTh ((a.1 0).1 0) x) (fNoTh ((a.1 0).1 0) y)) = 0 := c8
    rw [qA_0 r0, qB_0 r0] at hK
    obtain ⟨r7a, r7b⟩ := fFirst_0 r0
    obtain ⟨x_, hx, rfl⟩ := fNoTh_0 (n := nO (a.1 0)) (by omega) (by rw [← hn]; exact r7a)
    have ex : (nI x_).toNatClampNeg = x_ := nI_clamp (by omega)
    try rw [ex] at hK
    obtain ⟨y_, hy, rfl⟩ := fNoTh_0 (n := nO (a.1 0)) (by omega) (by rw [← hn]; exact r7b)
    have ey : (nI y_).toNatClampNeg = y_ := nI_clamp (by omega)
    try rw [ey] at hK
    exact ml_brk hx (by omega) h 60 1 s (by omega) (by omega) (fun s2 => hK m s2 hM)
  · conv => whnf
    refine m_no (x := (fFirst (fNoTh ((a.1 0).1 0) x) (fNoTh ((a.1 0).1 0) y))) (by first | (unfold rfs; decide) | exact fNoBlow_r (by assumption) | exact fFirst_r fNoTh_r fNoTh_r (by assumption)) ?_
    refine b_X12_breaks [20] ?_
    conv => whnf
    have e0 : (fFirst (fNoTh ((a.1 0).1 0) x) (fNoTh ((a.1 0).1 0) y)) = (fFirst (fNoTh ((a.1 0).1 0) x) (fNoTh ((a.1 0).1 0) y)) := rfl
    rw [e0, qA_n (rfs_n (by first | (unfold rfs; decide) | exact fNoBlow_r (by assumption) | exact fFirst_r fNoTh_r fNoTh_r (by assumption)))] at hK
    exact hK _ s (hM.bump (by first | (unfold rfs; decide) | exact fNoBlow_r (by assumption) | exact fFirst_r fNoTh_r fNoTh_r (by assumption)))
theorem ml_tgh {m : MS} {w : WS} {n : Nat} {A P : Nat → Nat} {t : Nat} (ht : t < n) {K : Option Value → AH → Prop} (h : mX m w n A P) : ∀ (k i : Nat) (s : S3) (hi0 : 1 ≤ i), i + k = 61 → (∀ s2 : S3, K (some (.int (tghF (fun v => !(decide ((blw w n (P t) (nI v)).2.2 = 0))) k i))) (mC m s2.1 s2.2.2)) → am_E i_X12_tough 16 [some (.ref 0), some (.int (nI t)), some (.int (nI i))] [] (mC m s.1 s.2.2) K := by
  intro k
  induction k with
  | zero =>
    intro i s hi0 hi hK
    obtain rfl : i = 61 := by omega
    refine b_X12_tough [16] ?_
    conv => whnf
    refine ⟨fun c19 => ?_, fun c19 => absurd (nI_lt (by omega) (by omega)) c19⟩
    refine b_X12_tough [16] ?_
    conv => whnf
    exact hK s
  | succ k ih =>
    intro i s hi0 hi hK
    refine b_X12_tough [16] ?_
    conv => whnf
    refine ⟨fun c19 => absurd c19 (fun z => absurd ((nI_ltI (by omega) (by omega)).mp z) (by omega)), fun c19 => ?_⟩
    conv => whnf
    refine m_fb (m := m) (s := s) h ht (v_b (by omega) (by omega)) (fun s2 hs2 hb2 => ?_)
    refine b_X12_tough [16] ?_
    conv => whnf
    refine ⟨fun c32 => ?_, fun c32 => ?_⟩
    · refine b_X12_tough [16] ?_
      conv => whnf
      rw [tghF, if_neg (by rw [← hs2.2, decide_eq_true c32]; decide)] at hK
      have h2 := ih (i + 1) s2 (by omega) (by omega) hK
      rw [← nI_add i 1] at h2
      exact h2
    · conv => whnf
      rw [tghF, if_pos (by rw [← hs2.2, decide_eq_false c32]; rfl)] at hK
      exact hK s2
theorem m_tough {a : Ab} {m : MS} {s : S3} {x : Int32} (hI : Inv a) (hM : MR a m)  {K : Option Value → AH → Prop} (hK : ∀ m2 (s2 : S3), MR (qB a (fNoTh ((a.1 0).1 0) x)) m2 → K (some (.int (qA (fNoTh ((a.1 0).1 0) x) (tghF (fun v => !(decide ((blw (a.1 0) (nO (a.1 0)) ((plW (a.1 0)) x.toNatClampNeg) (nI v)).2.2 = 0))) 60 1)))) (mC m2 s2.1 s2.2.2)) : am_M i_X12_tough [.ref 0, .int x] (mC m s.1 s.2.2) K := by
  have h := hM.x hI
  have hn := hI.n
  have hn8 := hI.n8
  refine e_X12_tough [16] ?_
  conv => whnf
  refine m_isTR hM ?_
  refine b_X12_tough [16] ?_
  conv => whnf
  refine ⟨fun c5 => ?_, fun c5 => ?_⟩
  · conv => whnf
    refine m_no (x := (Int32.ofInt (-1))) (by first | (unfold rfs; decide) | exact fNoBlow_r (by assumption) | exact fFirst_r fNoTh_r fNoTh_r (by assumption)) ?_
    refine b_X12_tough [16] ?_
    conv => whnf
    have e0 : (fNoTh ((a.1 0).1 0) x) = (Int32.ofInt (-1)) := (th_T c5)
    rw [e0, qA_n (rfs_n (by first | (unfold rfs; decide) | exact fNoBlow_r (by assumption) | exact fFirst_r fNoTh_r fNoTh_r (by assumption)))] at hK
    exact hK _ s (hM.bump (by first | (unfold rfs; decide) | exact fNoBlow_r (by assumption) | exact fFirst_r fNoTh_r fNoTh_r (by assumption)))
  · refine b_X12_tough [16] ?_
    conv => whnf
    have r0 : (fNoTh ((a.1 0).1 0) x) = 0 := (th_F c5)
    rw [qA_0 r0, qB_0 r0] at hK
    obtain ⟨x_, hx, rfl⟩ := fNoTh_0 (n := nO (a.1 0)) (by omega) (by rw [← hn]; exact r0)
    have ex : (nI x_).toNatClampNeg = x_ := nI_clamp (by omega)
    try rw [ex] at hK
    exact ml_tgh hx h 60 1 s (by omega) (by omega) (fun s2 => hK m s2 hM)
