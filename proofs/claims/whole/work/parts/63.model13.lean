/-! SPECS of the model: changes, the calls -/
theorem wI_cm {w : WS} {i j : Nat} {x y : Int32} (h : i ≠ j) : wI (wI w i x) j y = wI (wI w j y) i x := by
  have : va_up (va_up w.1 i x) j y = va_up (va_up w.1 j y) i x := by
    funext q
    unfold va_up
    by_cases a : q = j
    · rw [if_pos a, if_neg (by omega), if_pos a]
    · rw [if_neg a]
      by_cases b : q = i
      · rw [if_pos b, if_pos b]
      · rw [if_neg b, if_neg b, if_neg a]
  show (va_up (va_up w.1 i x) j y, w.2) = (va_up (va_up w.1 j y) i x, w.2)
  rw [this]
theorem mR.I {m : MS} {w : WS} (h : mR m w) (i : Nat) (z : Int32) : mR (setI m (i + 5) z) (wI w i z) := by
  refine ⟨fun j hj => ?_, h.2⟩
  show va_up m.1 (i + 5) z (j + 5) = va_up w.1 i z j
  unfold va_up
  by_cases q : j = i
  · rw [if_pos (by omega), if_pos q]
  · rw [if_neg (by omega), if_neg q]; exact h.1 j hj
theorem mR.s {m : MS} {w : WS} (h : mR m w) (i : Nat) (hi : 9 ≤ i) (z : Int32) : mR (setI m i z) w := ⟨fun j hj => (show va_up m.1 i z (j + 5) = m.1 (j + 5) from if_neg (by omega)).trans (h.1 j hj), h.2⟩
theorem mR.k9 {m : MS} {w : WS} (h : mR m w) (F : Nat → Int32) : mR (setA m 9 F) w := ⟨h.1, fun j hj => by
  rw [show (setA m 9 F).2 (j + 1) = m.2 (j + 1) from (show va_up m.2 9 F (j + 1) = m.2 (j + 1) from if_neg (by omega))]
  exact h.2 j hj⟩
theorem mR.kM {m : MS} {w : WS} (h : mR m w) (F : Nat → Int32) (f z : Int32) : mR (kM m F f z) w := ((h.k9 F).s 18 (by decide) f).s 19 (by decide) z
theorem MR.kx {a : Ab} {m : MS} {w2 : WS} (h : MR (kpA a w2) m) (hI : Inv a) : mX m (a.1 0) (nO (a.1 0)) (aO (a.1 0)) (plW (a.1 0)) := ⟨h.1, hI.1.1⟩
theorem dropR_n {t br dy x v y : Int32} (h : fFirst (fFirst (fNoTh t x) (fNoBlow v)) (fAbove (dy + nI 1) (nI 999)) = y) (hy : ¬ y = 0) : fDropR t br dy x v = y := by unfold fDropR; rw [if_neg (by rw [h]; exact hy), h]
theorem dropR_b {t br dy x v : Int32} (h : fFirst (fFirst (fNoTh t x) (fNoBlow v)) (fAbove (dy + nI 1) (nI 999)) = 0) (hb : hasB br x = true) : fDropR t br dy x v = Int32.ofInt (-3) := by unfold fDropR; rw [if_pos h, if_pos hb]
theorem dropR_z {t br dy x v : Int32} (h : fFirst (fFirst (fNoTh t x) (fNoBlow v)) (fAbove (dy + nI 1) (nI 999)) = 0) (hb : hasB br x = false) : fDropR t br dy x v = 0 := by unfold fDropR; rw [if_pos h, if_neg (by rw [hb]; decide), h]
theorem mendR_n {t br x y : Int32} (h : fNoTh t x = y) (hy : ¬ y = 0) : fMendR t br x = y := by unfold fMendR; rw [if_neg (by rw [h]; exact hy), h]
theorem mendR_b {t br x : Int32} (h : fNoTh t x = 0) (hb : hasB br x = false) : fMendR t br x = Int32.ofInt (-3) := by unfold fMendR; rw [if_pos h, if_neg (by rw [hb]; decide)]
theorem mendR_z {t br x : Int32} (h : fNoTh t x = 0) (hb : hasB br x = true) : fMendR t br x = 0 := by unfold fMendR; rw [if_pos h, if_pos hb, h]
theorem chgR_n {t x z y : Int32} (h : fFirst (fNoTh t x) (fNoTh t z) = y) (hy : ¬ y = 0) : fChgR t x z = y := by unfold fChgR; rw [if_neg (by rw [h]; exact hy), h]
theorem chgR_b {t x z : Int32} (h : fFirst (fNoTh t x) (fNoTh t z) = 0) (hb : x = z) : fChgR t x z = Int32.ofInt (-1) := by unfold fChgR; rw [if_pos h, if_pos hb]
theorem chgR_z {t x z : Int32} (h : fFirst (fNoTh t x) (fNoTh t z) = 0) (hb : ¬ x = z) : fChgR t x z = 0 := by unfold fChgR; rw [if_pos h, if_neg hb, h]
theorem day_T {dy z : Int32} (h : z = dy ∧ ∃ d, d ≤ 999 ∧ dy = nI d) (c : z = nI 999) : fAbove (dy + nI 1) (nI 999) = Int32.ofInt (-6) := by
  obtain ⟨h1, d, hd, h2⟩ := h
  rw [← h1, c]
  decide
theorem day_F {dy z : Int32} (h : z = dy ∧ ∃ d, d ≤ 999 ∧ dy = nI d) (c : ¬ z = nI 999) : fAbove (dy + nI 1) (nI 999) = 0 := by
  obtain ⟨rfl, d, hd, h2⟩ := h
  have : d ≠ 999 := fun q => c (by rw [h2, q])
  rw [h2, nI_add]
  exact ab_P (nI_le (by omega) (by decide))
theorem hasMx {s x : Int32} (h : ∃ t, t < 32 ∧ x = nI t) : hasM s x = hasB s x := by obtain ⟨t, ht, rfl⟩ := h; exact hasM_B s t ht
theorem th_x {t x : Int32} {n : Nat} (ht : t = nI n) (hn : n ≤ 8) (c : ¬ bI (fIsTh t x) = 0) : ∃ j, j < 32 ∧ x = nI j := by
  have := th_F c
  rw [ht] at this
  obtain ⟨j, hj, e⟩ := fNoTh_0 (n := n) (by omega) this
  exact ⟨j, by omega, e⟩
def adM (m : MS) (n : Nat) (k f b : Int32) : MS := (setI (setA (setA (setA (setA m 1 (upd (m.2 1) n k)) 2 (upd (m.2 2) n f)) 3 (upd (m.2 3) n b)) 4 (upd (m.2 4) n (nI n))) 5 (nI (n + 1)))
theorem m_adds {m : MS} {s : S3} {n : Nat} {k f b : Int32} (h5 : m.1 5 = nI n) (hn : n < 8) {K : Option Value → AH → Prop} (hK : K none (mC (adM m n k f b) s.1 s.2.2)) : am_M i_X12_adds [.ref 0, .int k, .int f, .int b] (mC m s.1 s.2.2) K := by
  have e : (m.1 5).toNatClampNeg = n := by rw [h5]; exact nI_clamp (by omega)
  have e2 : m.1 5 + nI 1 = nI (n + 1) := by rw [h5, nI_add]
  refine e_X12_adds [] ?_
  conv => whnf
  refine ⟨(by rw [h5]; exact vp_in_nI hn (by decide)), ?_⟩
  rw [e]
  conv => whnf
  refine ⟨(by rw [h5]; exact vp_in_nI hn (by decide)), ?_⟩
  rw [e]
  conv => whnf
  refine ⟨(by rw [h5]; exact vp_in_nI hn (by decide)), ?_⟩
  rw [e]
  conv => whnf
  refine ⟨(by rw [h5]; exact vp_in_nI hn (by decide)), ?_⟩
  rw [e, h5]
  conv => whnf
  rw [e2]
  exact hK
theorem mR.ad {m : MS} {w : WS} {n : Nat} {k f b : Int32} (h : mR m w) (hn : n < 8) : mR (adM m n k f b) (wJoin w n k f b) := by
  refine ⟨fun i hi => ?_, fun i hi j hj => ?_⟩
  · match i, hi with
    | 0, _ => rfl
    | 1, _ => exact h.1 1 (by decide)
    | 2, _ => exact h.1 2 (by decide)
    | 3, _ => exact h.1 3 (by decide)
  · have u : ∀ (F G : Nat → Int32) (y : Int32), F j = G j → upd F n y j = upd G n y j := fun F G y e => by unfold upd; split; rfl; exact e
    match i, hi with
    | 0, _ => exact u _ _ _ (h.2 0 (by decide) j hj)
    | 1, _ => exact u _ _ _ (h.2 1 (by decide) j hj)
    | 2, _ => exact u _ _ _ (h.2 2 (by decide) j hj)
    | 3, _ => exact u _ _ _ (h.2 3 (by decide) j hj)
def xcM (m : MS) (i j : Nat) : MS := setA m 4 (upd (upd (m.2 4) i (m.2 4 j)) j (m.2 4 i))
theorem m_xc {m : MS} {s : S3} {i j : Nat} (hi : i < 8) (hj : j < 8) {K : Option Value → AH → Prop} (hK : K none (mC (xcM m i j) s.1 s.2.2)) : am_M i_X12_exchanges [.ref 0, .int (nI i), .int (nI j)] (mC m s.1 s.2.2) K := by
  have ei : (nI i).toNatClampNeg = i := nI_clamp (by omega)
  have ej : (nI j).toNatClampNeg = j := nI_clamp (by omega)
  refine e_X12_exchanges [] ?_
  conv => whnf
  refine ⟨(vp_in_nI hi (by decide)), ?_⟩
  rw [ei]
  conv => whnf
  refine ⟨(vp_in_nI hj (by decide)), ?_⟩
  conv => whnf
  refine ⟨(vp_in_nI hi (by decide)), ?_⟩
  rw [ei, ej]
  conv => whnf
  refine ⟨(vp_in_nI hj (by decide)), ?_⟩
  rw [ej]
  conv => whnf
  exact hK
theorem mR.xc {m : MS} {w : WS} {i j : Nat} (h : mR m w) (hi : i < 8) (hj : j < 8) : mR (xcM m i j) (wXch w i j) := by
  refine ⟨h.1, fun q hq x hx => ?_⟩
  match q, hq with
  | 0, _ => exact h.2 0 (by decide) x hx
  | 1, _ => exact h.2 1 (by decide) x hx
  | 2, _ => exact h.2 2 (by decide) x hx
  | 3, _ =>
    show upd (upd (m.2 4) i (m.2 4 j)) j (m.2 4 i) x = upd (upd (w.2 3) i (w.2 3 j)) j (w.2 3 i) x
    unfold upd
    rw [h.2 3 (by decide) i hi, h.2 3 (by decide) j hj, h.2 3 (by decide) x hx]
theorem m_thing {a : Ab} {m : MS} {s : S3} {k f b : Int32} (hI : Inv a) (hM : MR a m)  {K : Option Value → AH → Prop} (h1 : ¬ (fJoinR ((a.1 0).1 0) k f b) = 0 → ∀ m2 (s2 : S3), MR (qB a (fJoinR ((a.1 0).1 0) k f b)) m2 → K (some (.int (fJoinR ((a.1 0).1 0) k f b))) (mC m2 s2.1 s2.2.2)) (h0 : (fJoinR ((a.1 0).1 0) k f b) = 0 → ∀ m2 (s2 : S3), MR (fgA (nowA a (wJoin (a.1 0) (nO (a.1 0)) k f b)) 0) m2 → K (some (.int (nI (nO (a.1 0))))) (mC m2 s2.1 s2.2.2)) : am_M i_X12_thing [.ref 0, .int k, .int f, .int b] (mC m s.1 s.2.2) K := by
  have h := hM.x hI
  have hn := hI.n
  have hn8 := hI.n8
  have hfull : m.1 5 = nI (nO (a.1 0)) ∧ nO (a.1 0) ≤ 8 ∧ 8 < 100 := ⟨h.n, hn8, by decide⟩
  refine e_X12_thing [] ?_
  conv => whnf
  refine m_isIn ?_
  refine b_X12_thing [] ?_
  conv => whnf
  refine ⟨fun c6 => ?_, fun c6 => ?_⟩
  · conv => whnf
    refine b_X12_thing [] ?_
    conv => whnf
    refine ⟨fun c58 => absurd c58 (by decide), fun c58 => ?_⟩
    conv => whnf
    refine m_no (x := (Int32.ofInt (-2))) (by first | (unfold rfs; decide) | exact fNoBlow_r (by assumption) | exact fFirst_r fNoTh_r fNoTh_r (by assumption) | exact fFirst_r fBelow_r fAbove_r (by assumption)) ?_
    refine b_X12_thing [] ?_
    conv => whnf
    have e0 : (fJoinR ((a.1 0).1 0) k f b) = (Int32.ofInt (-2)) := (fFn (fFn (fFn (in_T c6) (rfs_n (by first | (unfold rfs; decide) | exact fNoBlow_r (by assumption) | exact fFirst_r fNoTh_r fNoTh_r (by assumption) | exact fFirst_r fBelow_r fAbove_r (by assumption)))) (rfs_n (by first | (unfold rfs; decide) | exact fNoBlow_r (by assumption) | exact fFirst_r fNoTh_r fNoTh_r (by assumption) | exact fFirst_r fBelow_r fAbove_r (by assumption)))) (rfs_n (by first | (unfold rfs; decide) | exact fNoBlow_r (by assumption) | exact fFirst_r fNoTh_r fNoTh_r (by assumption) | exact fFirst_r fBelow_r fAbove_r (by assumption))))
    rw [e0] at h1
    exact h1 (rfs_n (by first | (unfold rfs; decide) | exact fNoBlow_r (by assumption) | exact fFirst_r fNoTh_r fNoTh_r (by assumption) | exact fFirst_r fBelow_r fAbove_r (by assumption))) _ s (hM.bump (by first | (unfold rfs; decide) | exact fNoBlow_r (by assumption) | exact fFirst_r fNoTh_r fNoTh_r (by assumption) | exact fFirst_r fBelow_r fAbove_r (by assumption)))
  · refine b_X12_thing [] ?_
    conv => whnf
    refine ⟨fun c15 => ?_, fun c15 => ?_⟩
    · refine b_X12_thing [] ?_
      conv => whnf
      refine b_X12_thing [] ?_
      conv => whnf
      refine ⟨fun c58 => absurd c58 (by decide), fun c58 => ?_⟩
      conv => whnf
      refine m_no (x := (Int32.ofInt (-4))) (by first | (unfold rfs; decide) | exact fNoBlow_r (by assumption) | exact fFirst_r fNoTh_r fNoTh_r (by assumption) | exact fFirst_r fBelow_r fAbove_r (by assumption)) ?_
      refine b_X12_thing [] ?_
      conv => whnf
      have e0 : (fJoinR ((a.1 0).1 0) k f b) = (Int32.ofInt (-4)) := (fFn (fFn (fF0 (in_F c6) (fFn (be_T (by rw [nI_0]; exact c15)) (rfs_n (by first | (unfold rfs; decide) | exact fNoBlow_r (by assumption) | exact fFirst_r fNoTh_r fNoTh_r (by assumption) | exact fFirst_r fBelow_r fAbove_r (by assumption))))) (rfs_n (by first | (unfold rfs; decide) | exact fNoBlow_r (by assumption) | exact fFirst_r fNoTh_r fNoTh_r (by assumption) | exact fFirst_r fBelow_r fAbove_r (by assumption)))) (rfs_n (by first | (unfold rfs; decide) | exact fNoBlow_r (by assumption) | exact fFirst_r fNoTh_r fNoTh_r (by assumption) | exact fFirst_r fBelow_r fAbove_r (by assumption))))
      rw [e0] at h1
      exact h1 (rfs_n (by first | (unfold rfs; decide) | exact fNoBlow_r (by assumption) | exact fFirst_r fNoTh_r fNoTh_r (by assumption) | exact fFirst_r fBelow_r fAbove_r (by assumption))) _ s (hM.bump (by first | (unfold rfs; decide) | exact fNoBlow_r (by assumption) | exact fFirst_r fNoTh_r fNoTh_r (by assumption) | exact fFirst_r fBelow_r fAbove_r (by assumption)))
    · conv => whnf
      refine ⟨fun c19 => ?_, fun c19 => ?_⟩
      · refine b_X12_thing [] ?_
        conv => whnf
        refine ⟨fun c30 => ?_, fun c30 => ?_⟩
        · refine b_X12_thing [] ?_
          conv => whnf
          refine b_X12_thing [] ?_
          conv => whnf
          refine ⟨fun c58 => absurd c58 (by decide), fun c58 => ?_⟩
          conv => whnf
          refine m_no (x := (Int32.ofInt (-6))) (by first | (unfold rfs; decide) | exact fNoBlow_r (by assumption) | exact fFirst_r fNoTh_r fNoTh_r (by assumption) | exact fFirst_r fBelow_r fAbove_r (by assumption)) ?_
          refine b_X12_thing [] ?_
          conv => whnf
          have e0 : (fJoinR ((a.1 0).1 0) k f b) = (Int32.ofInt (-6)) := (fFn (fF0 (fF0 (in_F c6) (fF0 (be_F (by rw [nI_0]; exact c15)) (be_P (by rw [nI_0]; exact c19)))) (fFn (ab_T c30) (rfs_n (by first | (unfold rfs; decide) | exact fNoBlow_r (by assumption) | exact fFirst_r fNoTh_r fNoTh_r (by assumption) | exact fFirst_r fBelow_r fAbove_r (by assumption))))) (rfs_n (by first | (unfold rfs; decide) | exact fNoBlow_r (by assumption) | exact fFirst_r fNoTh_r fNoTh_r (by assumption) | exact fFirst_r fBelow_r fAbove_r (by assumption))))
          rw [e0] at h1
          exact h1 (rfs_n (by first | (unfold rfs; decide) | exact fNoBlow_r (by assumption) | exact fFirst_r fNoTh_r fNoTh_r (by assumption) | exact fFirst_r fBelow_r fAbove_r (by assumption))) _ s (hM.bump (by first | (unfold rfs; decide) | exact fNoBlow_r (by assumption) | exact fFirst_r fNoTh_r fNoTh_r (by assumption) | exact fFirst_r fBelow_r fAbove_r (by assumption)))
        · conv => whnf
          refine ⟨fun c36 => ?_, fun c36 => ?_⟩
          · refine b_X12_thing [] ?_
            conv => whnf
            refine b_X12_thing [] ?_
            conv => whnf
            refine ⟨fun c58 => absurd c58 (by decide), fun c58 => ?_⟩
            conv => whnf
            refine m_no (x := (Int32.ofInt (-6))) (by first | (unfold rfs; decide) | exact fNoBlow_r (by assumption) | exact fFirst_r fNoTh_r fNoTh_r (by assumption) | exact fFirst_r fBelow_r fAbove_r (by assumption)) ?_
            refine b_X12_thing [] ?_
            conv => whnf
            have e0 : (fJoinR ((a.1 0).1 0) k f b) = (Int32.ofInt (-6)) := (fFn (fF0 (fF0 (in_F c6) (fF0 (be_F (by rw [nI_0]; exact c15)) (be_P (by rw [nI_0]; exact c19)))) (fF0 (ab_F c30) (ab_T c36))) (rfs_n (by first | (unfold rfs; decide) | exact fNoBlow_r (by assumption) | exact fFirst_r fNoTh_r fNoTh_r (by assumption) | exact fFirst_r fBelow_r fAbove_r (by assumption))))
            rw [e0] at h1
            exact h1 (rfs_n (by first | (unfold rfs; decide) | exact fNoBlow_r (by assumption) | exact fFirst_r fNoTh_r fNoTh_r (by assumption) | exact fFirst_r fBelow_r fAbove_r (by assumption))) _ s (hM.bump (by first | (unfold rfs; decide) | exact fNoBlow_r (by assumption) | exact fFirst_r fNoTh_r fNoTh_r (by assumption) | exact fFirst_r fBelow_r fAbove_r (by assumption)))
          · conv => whnf
            refine ⟨fun c45 => ?_, fun c45 => ?_⟩
            · conv => whnf
              refine b_X12_thing [] ?_
              conv => whnf
              refine ⟨fun c58 => absurd c58 (by decide), fun c58 => ?_⟩
              conv => whnf
              refine m_no (x := (Int32.ofInt (-6))) (by first | (unfold rfs; decide) | exact fNoBlow_r (by assumption) | exact fFirst_r fNoTh_r fNoTh_r (by assumption) | exact fFirst_r fBelow_r fAbove_r (by assumption)) ?_
              refine b_X12_thing [] ?_
              conv => whnf
              have e0 : (fJoinR ((a.1 0).1 0) k f b) = (Int32.ofInt (-6)) := (fF0 (fF0 (fF0 (in_F c6) (fF0 (be_F (by rw [nI_0]; exact c15)) (be_P (by rw [nI_0]; exact c19)))) (fF0 (ab_F c30) (ab_F c36))) (by rw [hn]; exact full_T hfull c45))
              rw [e0] at h1
              exact h1 (rfs_n (by first | (unfold rfs; decide) | exact fNoBlow_r (by assumption) | exact fFirst_r fNoTh_r fNoTh_r (by assumption) | exact fFirst_r fBelow_r fAbove_r (by assumption))) _ s (hM.bump (by first | (unfold rfs; decide) | exact fNoBlow_r (by assumption) | exact fFirst_r fNoTh_r fNoTh_r (by assumption) | exact fFirst_r fBelow_r fAbove_r (by assumption)))
            · refine b_X12_thing [] ?_
              conv => whnf
              refine ⟨fun c58 => ?_, fun c58 => absurd (by decide) c58⟩
              refine b_X12_thing [] ?_
              conv => whnf
              have r0 : (fJoinR ((a.1 0).1 0) k f b) = 0 := (fF0 (fF0 (fF0 (in_F c6) (fF0 (be_F (by rw [nI_0]; exact c15)) (be_P (by rw [nI_0]; exact c19)))) (fF0 (ab_F c30) (ab_F c36))) (by rw [hn]; exact full_F hfull c45))
              have h9 := h0 r0
              
              have hlt : nO (a.1 0) < 8 := fJoinR_0 hn8 (by rw [← hn]; exact r0)
              have e5 : (setI m 20 (nI 0)).1 5 = nI (nO (a.1 0)) := h.n
              refine m_adds (m := setI m 20 (nI 0)) (s := s) e5 hlt ?_
              refine b_X12_thing [] ?_
              conv => whnf
              rw [show (adM (setI m 20 (nI 0)) (nO (a.1 0)) k f b).1 5 - nI 1 = nI (nO (a.1 0)) from nI_p1 _]
              exact h9 _ s (mr_now (a := fgA a 0) (m := setI m 20 (nI 0)) (mr_fg hM (Nat.zero_le _)) ((hM.1.s 20 (by decide) (nI 0)).ad hlt) rfl rfl rfl rfl rfl rfl rfl rfl)
      · conv => whnf
        refine b_X12_thing [] ?_
        conv => whnf
        refine ⟨fun c58 => absurd c58 (by decide), fun c58 => ?_⟩
        conv => whnf
        refine m_no (x := (Int32.ofInt (-4))) (by first | (unfold rfs; decide) | exact fNoBlow_r (by assumption) | exact fFirst_r fNoTh_r fNoTh_r (by assumption) | exact fFirst_r fBelow_r fAbove_r (by assumption)) ?_
        refine b_X12_thing [] ?_
        conv => whnf
        have e0 : (fJoinR ((a.1 0).1 0) k f b) = (Int32.ofInt (-4)) := (fFn (fFn (fF0 (in_F c6) (fF0 (be_F (by rw [nI_0]; exact c15)) (be_Q (by rw [nI_0]; exact c19)))) (rfs_n (by first | (unfold rfs; decide) | exact fNoBlow_r (by assumption) | exact fFirst_r fNoTh_r fNoTh_r (by assumption) | exact fFirst_r fBelow_r fAbove_r (by assumption)))) (rfs_n (by first | (unfold rfs; decide) | exact fNoBlow_r (by assumption) | exact fFirst_r fNoTh_r fNoTh_r (by assumption) | exact fFirst_r fBelow_r fAbove_r (by assumption))))
        rw [e0] at h1
        exact h1 (rfs_n (by first | (unfold rfs; decide) | exact fNoBlow_r (by assumption) | exact fFirst_r fNoTh_r fNoTh_r (by assumption) | exact fFirst_r fBelow_r fAbove_r (by assumption))) _ s (hM.bump (by first | (unfold rfs; decide) | exact fNoBlow_r (by assumption) | exact fFirst_r fNoTh_r fNoTh_r (by assumption) | exact fFirst_r fBelow_r fAbove_r (by assumption)))
theorem m_drops {a : Ab} {m : MS} {s : S3} {x v : Int32} (hI : Inv a) (hM : MR a m) {w2 : WS} (hw2 : wEq w2 (a.1 0)) {K : Option Value → AH → Prop} (h1 : ¬ (fDropR ((a.1 0).1 0) ((a.1 0).1 1) ((a.1 0).1 3) x v) = 0 → ∀ m2 (s2 : S3), MR (qB a (fDropR ((a.1 0).1 0) ((a.1 0).1 1) ((a.1 0).1 3) x v)) m2 → K (some (.int (fDropR ((a.1 0).1 0) ((a.1 0).1 1) ((a.1 0).1 3) x v))) (mC m2 s2.1 s2.2.2)) (h0 : (fDropR ((a.1 0).1 0) ((a.1 0).1 1) ((a.1 0).1 3) x v) = 0 → ∀ m2 (s2 : S3), MR (nowA (kpA a w2) (wDrop (a.1 0) (blw (a.1 0) (nO (a.1 0)) (plW (a.1 0) x.toNatClampNeg) v).2.2)) m2 → K (some (.int (fBc (blw (a.1 0) (nO (a.1 0)) (plW (a.1 0) x.toNatClampNeg) v).2.2))) (mC m2 s2.1 s2.2.2)) : am_M i_X12_drops [.ref 0, .int x, .int v] (mC m s.1 s.2.2) K := by
  have h := hM.x hI
  have hn := hI.n
  have hn8 := hI.n8
  have hday : m.1 8 = (a.1 0).1 3 ∧ ∃ d, d ≤ 999 ∧ (a.1 0).1 3 = nI d := ⟨h.dy, hI.1.2.2.2⟩
  refine e_X12_drops [] ?_
  conv => whnf
  refine m_isTR hM ?_
  refine b_X12_drops [] ?_
  conv => whnf
  refine ⟨fun c5 => ?_, fun c5 => ?_⟩
  · conv => whnf
    refine b_X12_drops [] ?_
    conv => whnf
    refine ⟨fun c18 => absurd c18 (by decide), fun c18 => ?_⟩
    refine b_X12_drops [] ?_
    conv => whnf
    refine ⟨fun c55 => absurd c55 (by decide), fun c55 => ?_⟩
    conv => whnf
    refine m_no (x := (Int32.ofInt (-1))) (by first | (unfold rfs; decide) | exact fNoBlow_r (by assumption) | exact fFirst_r fNoTh_r fNoTh_r (by assumption) | exact fFirst_r fBelow_r fAbove_r (by assumption)) ?_
    refine b_X12_drops [] ?_
    conv => whnf
    have e0 : (fDropR ((a.1 0).1 0) ((a.1 0).1 1) ((a.1 0).1 3) x v) = (Int32.ofInt (-1)) := (dropR_n (fFn (fFn (th_T c5) (rfs_n (by first | (unfold rfs; decide) | exact fNoBlow_r (by assumption) | exact fFirst_r fNoTh_r fNoTh_r (by assumption) | exact fFirst_r fBelow_r fAbove_r (by assumption)))) (rfs_n (by first | (unfold rfs; decide) | exact fNoBlow_r (by assumption) | exact fFirst_r fNoTh_r fNoTh_r (by assumption) | exact fFirst_r fBelow_r fAbove_r (by assumption)))) (rfs_n (by first | (unfold rfs; decide) | exact fNoBlow_r (by assumption) | exact fFirst_r fNoTh_r fNoTh_r (by assumption) | exact fFirst_r fBelow_r fAbove_r (by assumption))))
    rw [e0] at h1
    exact h1 (rfs_n (by first | (unfold rfs; decide) | exact fNoBlow_r (by assumption) | exact fFirst_r fNoTh_r fNoTh_r (by assumption) | exact fFirst_r fBelow_r fAbove_r (by assumption))) _ s (hM.bump (by first | (unfold rfs; decide) | exact fNoBlow_r (by assumption) | exact fFirst_r fNoTh_r fNoTh_r (by assumption) | exact fFirst_r fBelow_r fAbove_r (by assumption)))
  · refine b_X12_drops [] ?_
    conv => whnf
    refine m_nb ?_
    refine b_X12_drops [] ?_
    conv => whnf
    refine ⟨fun c18 => ?_, fun c18 => ?_⟩
    · conv => whnf
      refine ⟨fun c28 => ?_, fun c28 => ?_⟩
      · conv => whnf
        refine b_X12_drops [] ?_
        conv => whnf
        refine ⟨fun c55 => absurd c55 (by decide), fun c55 => ?_⟩
        conv => whnf
        refine m_no (x := (Int32.ofInt (-6))) (by first | (unfold rfs; decide) | exact fNoBlow_r (by assumption) | exact fFirst_r fNoTh_r fNoTh_r (by assumption) | exact fFirst_r fBelow_r fAbove_r (by assumption)) ?_
        refine b_X12_drops [] ?_
        conv => whnf
        have e0 : (fDropR ((a.1 0).1 0) ((a.1 0).1 1) ((a.1 0).1 3) x v) = (Int32.ofInt (-6)) := (dropR_n (fF0 (fF0 (th_F c5) c18) (day_T hday c28)) (rfs_n (by first | (unfold rfs; decide) | exact fNoBlow_r (by assumption) | exact fFirst_r fNoTh_r fNoTh_r (by assumption) | exact fFirst_r fBelow_r fAbove_r (by assumption))))
        rw [e0] at h1
        exact h1 (rfs_n (by first | (unfold rfs; decide) | exact fNoBlow_r (by assumption) | exact fFirst_r fNoTh_r fNoTh_r (by assumption) | exact fFirst_r fBelow_r fAbove_r (by assumption))) _ s (hM.bump (by first | (unfold rfs; decide) | exact fNoBlow_r (by assumption) | exact fFirst_r fNoTh_r fNoTh_r (by assumption) | exact fFirst_r fBelow_r fAbove_r (by assumption)))
      · refine b_X12_drops [] ?_
        conv => whnf
        rw [h.br]
        refine m_has ?_
        rw [hasMx (th_x hn hn8 c5)]
        refine b_X12_drops [] ?_
        conv => whnf
        refine ⟨fun c44 => ?_, fun c44 => ?_⟩
        · refine b_X12_drops [] ?_
          conv => whnf
          refine ⟨fun c55 => ?_, fun c55 => absurd (by decide) c55⟩
          refine b_X12_drops [] ?_
          conv => whnf
          have r0 : (fDropR ((a.1 0).1 0) ((a.1 0).1 1) ((a.1 0).1 3) x v) = 0 := (dropR_z (fF0 (fF0 (th_F c5) c18) (day_F hday c28)) (bI_0.mp c44))
          have h9 := h0 r0
          
          obtain ⟨t, ht, rfl⟩ := fNoTh_0 (n := nO (a.1 0)) (by omega) (by rw [← hn]; exact th_F c5)
          have et : (nI t).toNatClampNeg = t := nI_clamp (by omega)
          rw [et] at h9
          obtain ⟨u, hu1, hu2, rfl⟩ := fNoBlow_0 c18
          refine m_kb hI hM hw2 (fun m2 hM2 => ?_)
          have hx2 := hM2.kx hI
          refine b_X12_drops [] ?_
          conv => whnf
          refine m_bb (m := setI m2 8 (m2.1 8 + nI 1)) (w := wI (a.1 0) 3 (m2.1 8 + nI 1)) (z := m2.1 6) (s := s) (hx2.I (i := 3) (by decide) (by decide) _) ht (v_b hu1 (by omega)) (fun s2 hs2 hb2 => ?_)
          refine b_X12_drops [] ?_
          conv => whnf
          have eb : blw (brW (wI (a.1 0) 3 (m2.1 8 + nI 1)) (m2.1 6)) (nO (a.1 0)) (plW (a.1 0) t) (nI u) = blw (a.1 0) (nO (a.1 0)) (plW (a.1 0) t) (nI u) := by
            rw [hx2.br]
            exact (blw_br (w := wI (a.1 0) 3 (m2.1 8 + nI 1)) (v := a.1 0) (hx2.I (i := 3) (by decide) (by decide) (m2.1 8 + nI 1)).2 (hx2.P ht).1 rfl rfl).symm
          rw [eb] at hs2
          rw [← hs2.2] at h9
          refine h9 _ s2 (mr_now hM2 ?_ rfl rfl rfl rfl rfl rfl rfl rfl)
          have h8 : m2.1 8 = (a.1 0).1 3 := hx2.dy
          have h6 : m2.1 6 = (a.1 0).1 1 := hx2.br
          unfold wDrop
          rw [← h6, wI_cm (by decide), ← h8]
          exact (hM2.1.I 3 (m2.1 8 + nI 1)).I 1 (m2.1 6 ||| s2.2.2)
        · conv => whnf
          refine b_X12_drops [] ?_
          conv => whnf
          refine ⟨fun c55 => absurd c55 (by decide), fun c55 => ?_⟩
          conv => whnf
          refine m_no (x := (Int32.ofInt (-3))) (by first | (unfold rfs; decide) | exact fNoBlow_r (by assumption) | exact fFirst_r fNoTh_r fNoTh_r (by assumption) | exact fFirst_r fBelow_r fAbove_r (by assumption)) ?_
          refine b_X12_drops [] ?_
          conv => whnf
          have e0 : (fDropR ((a.1 0).1 0) ((a.1 0).1 1) ((a.1 0).1 3) x v) = (Int32.ofInt (-3)) := (dropR_b (fF0 (fF0 (th_F c5) c18) (day_F hday c28)) (bI_n0.mp c44))
          rw [e0] at h1
          exact h1 (rfs_n (by first | (unfold rfs; decide) | exact fNoBlow_r (by assumption) | exact fFirst_r fNoTh_r fNoTh_r (by assumption) | exact fFirst_r fBelow_r fAbove_r (by assumption))) _ s (hM.bump (by first | (unfold rfs; decide) | exact fNoBlow_r (by assumption) | exact fFirst_r fNoTh_r fNoTh_r (by assumption) | exact fFirst_r fBelow_r fAbove_r (by assumption)))
    · refine b_X12_drops [] ?_
      conv => whnf
      refine ⟨fun c55 => absurd c55 c18, fun c55 => ?_⟩
      conv => whnf
      refine m_no (x := (fNoBlow v)) (by first | (unfold rfs; decide) | exact fNoBlow_r (by assumption) | exact fFirst_r fNoTh_r fNoTh_r (by assumption) | exact fFirst_r fBelow_r fAbove_r (by assumption)) ?_
      refine b_X12_drops [] ?_
      conv => whnf
      have e0 : (fDropR ((a.1 0).1 0) ((a.1 0).1 1) ((a.1 0).1 3) x v) = (fNoBlow v) := (dropR_n (fFn (fF0 (th_F c5) rfl) (rfs_n (by first | (unfold rfs; decide) | exact fNoBlow_r (by assumption) | exact fFirst_r fNoTh_r fNoTh_r (by assumption) | exact fFirst_r fBelow_r fAbove_r (by assumption)))) (rfs_n (by first | (unfold rfs; decide) | exact fNoBlow_r (by assumption) | exact fFirst_r fNoTh_r fNoTh_r (by assumption) | exact fFirst_r fBelow_r fAbove_r (by assumption))))
      rw [e0] at h1
      exact h1 (rfs_n (by first | (unfold rfs; decide) | exact fNoBlow_r (by assumption) | exact fFirst_r fNoTh_r fNoTh_r (by assumption) | exact fFirst_r fBelow_r fAbove_r (by assumption))) _ s (hM.bump (by first | (unfold rfs; decide) | exact fNoBlow_r (by assumption) | exact fFirst_r fNoTh_r fNoTh_r (by assumption) | exact fFirst_r fBelow_r fAbove_r (by assumption)))
theorem m_mends {a : Ab} {m : MS} {s : S3} {x : Int32} (hI : Inv a) (hM : MR a m) {w2 : WS} (hw2 : wEq w2 (a.1 0)) {K : Option Value → AH → Prop} (h1 : ¬ (fMendR ((a.1 0).1 0) ((a.1 0).1 1) x) = 0 → ∀ m2 (s2 : S3), MR (qB a (fMendR ((a.1 0).1 0) ((a.1 0).1 1) x)) m2 → K (some (.int (fMendR ((a.1 0).1 0) ((a.1 0).1 1) x))) (mC m2 s2.1 s2.2.2)) (h0 : (fMendR ((a.1 0).1 0) ((a.1 0).1 1) x) = 0 → ∀ m2 (s2 : S3), MR (nowA (kpA a w2) (wI (a.1 0) 1 (butI ((a.1 0).1 1) x))) m2 → K (some (.int (fBc (butI ((a.1 0).1 1) x)))) (mC m2 s2.1 s2.2.2)) : am_M i_X12_mends [.ref 0, .int x] (mC m s.1 s.2.2) K := by
  have h := hM.x hI
  have hn := hI.n
  have hn8 := hI.n8
  refine e_X12_mends [] ?_
  conv => whnf
  refine m_isTR hM ?_
  refine b_X12_mends [] ?_
  conv => whnf
  refine ⟨fun c5 => ?_, fun c5 => ?_⟩
  · conv => whnf
    refine b_X12_mends [] ?_
    conv => whnf
    refine ⟨fun c31 => absurd c31 (by decide), fun c31 => ?_⟩
    conv => whnf
    refine m_no (x := (Int32.ofInt (-1))) (by first | (unfold rfs; decide) | exact fNoBlow_r (by assumption) | exact fFirst_r fNoTh_r fNoTh_r (by assumption) | exact fFirst_r fBelow_r fAbove_r (by assumption)) ?_
    refine b_X12_mends [] ?_
    conv => whnf
    have e0 : (fMendR ((a.1 0).1 0) ((a.1 0).1 1) x) = (Int32.ofInt (-1)) := (mendR_n (th_T c5) (rfs_n (by first | (unfold rfs; decide) | exact fNoBlow_r (by assumption) | exact fFirst_r fNoTh_r fNoTh_r (by assumption) | exact fFirst_r fBelow_r fAbove_r (by assumption))))
    rw [e0] at h1
    exact h1 (rfs_n (by first | (unfold rfs; decide) | exact fNoBlow_r (by assumption) | exact fFirst_r fNoTh_r fNoTh_r (by assumption) | exact fFirst_r fBelow_r fAbove_r (by assumption))) _ s (hM.bump (by first | (unfold rfs; decide) | exact fNoBlow_r (by assumption) | exact fFirst_r fNoTh_r fNoTh_r (by assumption) | exact fFirst_r fBelow_r fAbove_r (by assumption)))
  · refine b_X12_mends [] ?_
    conv => whnf
    rw [h.br]
    refine m_has ?_
    rw [hasMx (th_x hn hn8 c5)]
    refine b_X12_mends [] ?_
    conv => whnf
    refine ⟨fun c20 => ?_, fun c20 => ?_⟩
    · conv => whnf
      refine b_X12_mends [] ?_
      conv => whnf
      refine ⟨fun c31 => absurd c31 (by decide), fun c31 => ?_⟩
      conv => whnf
      refine m_no (x := (Int32.ofInt (-3))) (by first | (unfold rfs; decide) | exact fNoBlow_r (by assumption) | exact fFirst_r fNoTh_r fNoTh_r (by assumption) | exact fFirst_r fBelow_r fAbove_r (by assumption)) ?_
      refine b_X12_mends [] ?_
      conv => whnf
      have e0 : (fMendR ((a.1 0).1 0) ((a.1 0).1 1) x) = (Int32.ofInt (-3)) := (mendR_b (th_F c5) (bI_0.mp c20))
      rw [e0] at h1
      exact h1 (rfs_n (by first | (unfold rfs; decide) | exact fNoBlow_r (by assumption) | exact fFirst_r fNoTh_r fNoTh_r (by assumption) | exact fFirst_r fBelow_r fAbove_r (by assumption))) _ s (hM.bump (by first | (unfold rfs; decide) | exact fNoBlow_r (by assumption) | exact fFirst_r fNoTh_r fNoTh_r (by assumption) | exact fFirst_r fBelow_r fAbove_r (by assumption)))
    · refine b_X12_mends [] ?_
      conv => whnf
      refine ⟨fun c31 => ?_, fun c31 => absurd (by decide) c31⟩
      refine b_X12_mends [] ?_
      conv => whnf
      have r0 : (fMendR ((a.1 0).1 0) ((a.1 0).1 1) x) = 0 := (mendR_z (th_F c5) (bI_n0.mp c20))
      have h9 := h0 r0
      
      refine m_kb hI hM hw2 (fun m2 hM2 => ?_)
      have hx2 := hM2.kx hI
      refine b_X12_mends [] ?_
      conv => whnf
      rw [hx2.br]
      refine m_bits ?_
      rw [smB.bc (n := nO (a.1 0)) (fun j hj => by rw [bitN_and, hI.sm j hj]; rfl) hn8]
      refine b_X12_mends [] ?_
      conv => whnf
      refine h9 _ s (mr_now hM2 (hM2.1.I 1 _) rfl rfl rfl rfl rfl rfl rfl rfl)
theorem m_cuts {a : Ab} {m : MS} {s : S3} {x : Int32} (hI : Inv a) (hM : MR a m) {w2 : WS} (hw2 : wEq w2 (a.1 0)) {K : Option Value → AH → Prop} (h1 : ¬ (fNoTh ((a.1 0).1 0 - nI 1) x) = 0 → ∀ m2 (s2 : S3), MR (qB a (fNoTh ((a.1 0).1 0 - nI 1) x)) m2 → K (some (.int (fNoTh ((a.1 0).1 0 - nI 1) x))) (mC m2 s2.1 s2.2.2)) (h0 : (fNoTh ((a.1 0).1 0 - nI 1) x) = 0 → ∀ m2 (s2 : S3), MR (nowA (kpA a w2) (wI (a.1 0) 2 ((a.1 0).1 2 ^^^ (nI 1 <<< (x &&& 31))))) m2 → K (some (.int (bI (fCut ((a.1 0).1 2 ^^^ (nI 1 <<< (x &&& 31))) x)))) (mC m2 s2.1 s2.2.2)) : am_M i_X12_cuts [.ref 0, .int x] (mC m s.1 s.2.2) K := by
  have h := hM.x hI
  have hn := hI.n
  have hn8 := hI.n8
  refine e_X12_cuts [] ?_
  conv => whnf
  refine m_isLink (m := m) (g := s.1) (b := s.2.2) ?_
  rw [hM.n]
  refine b_X12_cuts [] ?_
  conv => whnf
  refine ⟨fun c5 => ?_, fun c5 => ?_⟩
  · conv => whnf
    refine m_no (x := (Int32.ofInt (-1))) (by first | (unfold rfs; decide) | exact fNoBlow_r (by assumption) | exact fFirst_r fNoTh_r fNoTh_r (by assumption) | exact fFirst_r fBelow_r fAbove_r (by assumption)) ?_
    refine b_X12_cuts [] ?_
    conv => whnf
    have e0 : (fNoTh ((a.1 0).1 0 - nI 1) x) = (Int32.ofInt (-1)) := (th_T c5)
    rw [e0] at h1
    exact h1 (rfs_n (by first | (unfold rfs; decide) | exact fNoBlow_r (by assumption) | exact fFirst_r fNoTh_r fNoTh_r (by assumption) | exact fFirst_r fBelow_r fAbove_r (by assumption))) _ s (hM.bump (by first | (unfold rfs; decide) | exact fNoBlow_r (by assumption) | exact fFirst_r fNoTh_r fNoTh_r (by assumption) | exact fFirst_r fBelow_r fAbove_r (by assumption)))
  · refine b_X12_cuts [] ?_
    conv => whnf
    have r0 : (fNoTh ((a.1 0).1 0 - nI 1) x) = 0 := (th_F c5)
    have h9 := h0 r0
    
    obtain ⟨t, ht, rfl⟩ : ∃ t, t < 32 ∧ x = nI t := by
      have r1 := r0
      by_cases z : nO (a.1 0) = 0
      · rw [hn, z] at r1
        unfold fNoTh at r1
        by_cases c1 : x < 0
        · rw [if_pos c1] at r1; exact absurd r1 (by decide)
        · rw [if_neg c1] at r1
          rw [if_neg (fun y => c1 (Int32.lt_trans y (by decide)))] at r1
          exact absurd r1 (by decide)
      · rw [hn, nI_m _ (by omega)] at r1
        obtain ⟨t, ht, e⟩ := fNoTh_0 (n := nO (a.1 0) - 1) (by omega) r1
        exact ⟨t, by omega, e⟩
    refine m_kb hI hM hw2 (fun m2 hM2 => ?_)
    have hx2 := hM2.kx hI
    refine b_X12_cuts [] ?_
    conv => whnf
    rw [hx2.cu, shr1 ht]
    rw [fCut_hasB ht] at h9
    exact h9 _ s (mr_now hM2 (hM2.1.I 2 _) rfl rfl rfl rfl rfl rfl rfl rfl)
theorem m_changes {a : Ab} {m : MS} {s : S3} {x y : Int32} (hI : Inv a) (hM : MR a m) {w2 : WS} (hw2 : wEq w2 (a.1 0)) {K : Option Value → AH → Prop} (h1 : ¬ (fChgR ((a.1 0).1 0) x y) = 0 → ∀ m2 (s2 : S3), MR (qB a (fChgR ((a.1 0).1 0) x y)) m2 → K (some (.int (fChgR ((a.1 0).1 0) x y))) (mC m2 s2.1 s2.2.2)) (h0 : (fChgR ((a.1 0).1 0) x y) = 0 → ∀ m2 (s2 : S3), MR (nowA (kpA a w2) (wXch (a.1 0) x.toNatClampNeg y.toNatClampNeg)) m2 → K (some (.int ((wXch (a.1 0) x.toNatClampNeg y.toNatClampNeg).2 3 x.toNatClampNeg))) (mC m2 s2.1 s2.2.2)) : am_M i_X12_changes [.ref 0, .int x, .int y] (mC m s.1 s.2.2) K := by
  have h := hM.x hI
  have hn := hI.n
  have hn8 := hI.n8
  refine e_X12_changes [] ?_
  conv => whnf
  refine m_isTR hM ?_
  refine b_X12_changes [] ?_
  conv => whnf
  refine ⟨fun c5 => ?_, fun c5 => ?_⟩
  · refine b_X12_changes [] ?_
    conv => whnf
    refine m_no (x := (Int32.ofInt (-1))) (by first | (unfold rfs; decide) | exact fNoBlow_r (by assumption) | exact fFirst_r fNoTh_r fNoTh_r (by assumption) | exact fFirst_r fBelow_r fAbove_r (by assumption)) ?_
    refine b_X12_changes [] ?_
    conv => whnf
    have e0 : (fChgR ((a.1 0).1 0) x y) = (Int32.ofInt (-1)) := (chgR_n (fFn (th_T c5) (rfs_n (by first | (unfold rfs; decide) | exact fNoBlow_r (by assumption) | exact fFirst_r fNoTh_r fNoTh_r (by assumption) | exact fFirst_r fBelow_r fAbove_r (by assumption)))) (rfs_n (by first | (unfold rfs; decide) | exact fNoBlow_r (by assumption) | exact fFirst_r fNoTh_r fNoTh_r (by assumption) | exact fFirst_r fBelow_r fAbove_r (by assumption))))
    rw [e0] at h1
    exact h1 (rfs_n (by first | (unfold rfs; decide) | exact fNoBlow_r (by assumption) | exact fFirst_r fNoTh_r fNoTh_r (by assumption) | exact fFirst_r fBelow_r fAbove_r (by assumption))) _ s (hM.bump (by first | (unfold rfs; decide) | exact fNoBlow_r (by assumption) | exact fFirst_r fNoTh_r fNoTh_r (by assumption) | exact fFirst_r fBelow_r fAbove_r (by assumption)))
  · conv => whnf
    refine m_isTR hM ?_
    refine b_X12_changes [] ?_
    conv => whnf
    refine ⟨fun c13 => ?_, fun c13 => ?_⟩
    · refine b_X12_changes [] ?_
      conv => whnf
      refine m_no (x := (Int32.ofInt (-1))) (by first | (unfold rfs; decide) | exact fNoBlow_r (by assumption) | exact fFirst_r fNoTh_r fNoTh_r (by assumption) | exact fFirst_r fBelow_r fAbove_r (by assumption)) ?_
      refine b_X12_changes [] ?_
      conv => whnf
      have e0 : (fChgR ((a.1 0).1 0) x y) = (Int32.ofInt (-1)) := (chgR_n (fF0 (th_F c5) (th_T c13)) (rfs_n (by first | (unfold rfs; decide) | exact fNoBlow_r (by assumption) | exact fFirst_r fNoTh_r fNoTh_r (by assumption) | exact fFirst_r fBelow_r fAbove_r (by assumption))))
      rw [e0] at h1
      exact h1 (rfs_n (by first | (unfold rfs; decide) | exact fNoBlow_r (by assumption) | exact fFirst_r fNoTh_r fNoTh_r (by assumption) | exact fFirst_r fBelow_r fAbove_r (by assumption))) _ s (hM.bump (by first | (unfold rfs; decide) | exact fNoBlow_r (by assumption) | exact fFirst_r fNoTh_r fNoTh_r (by assumption) | exact fFirst_r fBelow_r fAbove_r (by assumption)))
    · conv => whnf
      refine ⟨fun c18 => ?_, fun c18 => ?_⟩
      · conv => whnf
        refine m_no (x := (Int32.ofInt (-1))) (by first | (unfold rfs; decide) | exact fNoBlow_r (by assumption) | exact fFirst_r fNoTh_r fNoTh_r (by assumption) | exact fFirst_r fBelow_r fAbove_r (by assumption)) ?_
        refine b_X12_changes [] ?_
        conv => whnf
        have e0 : (fChgR ((a.1 0).1 0) x y) = (Int32.ofInt (-1)) := (chgR_b (fF0 (th_F c5) (th_F c13)) c18)
        rw [e0] at h1
        exact h1 (rfs_n (by first | (unfold rfs; decide) | exact fNoBlow_r (by assumption) | exact fFirst_r fNoTh_r fNoTh_r (by assumption) | exact fFirst_r fBelow_r fAbove_r (by assumption))) _ s (hM.bump (by first | (unfold rfs; decide) | exact fNoBlow_r (by assumption) | exact fFirst_r fNoTh_r fNoTh_r (by assumption) | exact fFirst_r fBelow_r fAbove_r (by assumption)))
      · refine b_X12_changes [] ?_
        conv => whnf
        have r0 : (fChgR ((a.1 0).1 0) x y) = 0 := (chgR_z (fF0 (th_F c5) (th_F c13)) c18)
        have h9 := h0 r0
        
        obtain ⟨i, hi, rfl⟩ := fNoTh_0 (n := nO (a.1 0)) (by omega) (by rw [← hn]; exact th_F c5)
        obtain ⟨j, hj, rfl⟩ := fNoTh_0 (n := nO (a.1 0)) (by omega) (by rw [← hn]; exact th_F c13)
        have ei : (nI i).toNatClampNeg = i := nI_clamp (by omega)
        have ej : (nI j).toNatClampNeg = j := nI_clamp (by omega)
        rw [ei, ej] at h9
        refine m_kb hI hM hw2 (fun m2 hM2 => ?_)
        have hx2 := hM2.kx hI
        refine b_X12_changes [] ?_
        conv => whnf
        refine m_xc (m := m2) (s := s) (by omega) (by omega) ?_
        refine b_X12_changes [] ?_
        conv => whnf
        refine ⟨(vp_in_nI (show i < 8 by omega) (by decide)), ?_⟩
        rw [ei]
        conv => whnf
        have hmx : mR (xcM m2 i j) (wXch (a.1 0) i j) := hM2.1.xc (show i < 8 by omega) (show j < 8 by omega)
        rw [← hmx.2 3 (by decide) i (by omega)] at h9
        exact h9 _ s (mr_now hM2 hmx rfl rfl rfl rfl rfl rfl rfl rfl)
theorem m_back {a : Ab} {m : MS} {s : S3} {w2 : WS} (hI : Inv a) (hM : MR a m) {K : Option Value → AH → Prop} (h1 : a.2.2 3 = 0 → ∀ m2 (s2 : S3), MR (qB a (Int32.ofInt (-3))) m2 → K (some (.int (Int32.ofInt (-3)))) (mC m2 s2.1 s2.2.2)) (h0 : ¬ a.2.2 3 = 0 → wEq w2 (a.1 (2 + (a.2.2 3 - 1))) ∧ ∀ m2 (s2 : S3), MR (fgA (nowA a w2) (a.2.2 3 - 1)) m2 → K (some (.int (nI (a.2.2 3 - 1)))) (mC m2 s2.1 s2.2.2)) : am_M i_X12_back [.ref 0] (mC m s.1 s.2.2) K := by
  have h8 := hI.2.2.2.2.2.1
  have e20 := hM.2.2.2.2.2.1
  refine e_X12_back [] ?_
  conv => whnf
  refine ⟨fun c4 => ?_, fun c4 => ?_⟩
  · conv => whnf
    refine m_no (x := Int32.ofInt (-3)) (by first | (unfold rfs; decide) | exact fNoBlow_r (by assumption) | exact fFirst_r fNoTh_r fNoTh_r (by assumption) | exact fFirst_r fBelow_r fAbove_r (by assumption)) ?_
    refine b_X12_back [] ?_
    conv => whnf
    exact h1 ((nI_eq (by omega) (by decide)).mp ((e20.symm.trans c4).trans nI_0.symm)) _ s (hM.bump (by first | (unfold rfs; decide) | exact fNoBlow_r (by assumption) | exact fFirst_r fNoTh_r fNoTh_r (by assumption) | exact fFirst_r fBelow_r fAbove_r (by assumption)))
  · refine b_X12_back [] ?_
    conv => whnf
    have hz : ¬ a.2.2 3 = 0 := fun z => c4 (by rw [e20, z, nI_0])
    obtain ⟨hw2, h9⟩ := h0 hz
    have e21 : m.1 20 - nI 1 = nI (a.2.2 3 - 1) := by rw [e20, nI_m _ (by omega)]
    rw [e21, nI_add]
    refine m_load (m := setI m 20 (nI (a.2.2 3 - 1))) (s := s) (b := 3 + (a.2.2 3 - 1)) (by omega) (fun z => ?_)
    refine b_X12_back [] ?_
    conv => whnf
    have hk : kpt (m.2 9) (3 + (a.2.2 3 - 1)) (a.1 (2 + (a.2.2 3 - 1))) := hM.2.2.2.2.2.2 (a.2.2 3 - 1) (by omega)
    have hmr : mR (ldM (setI m 20 (nI (a.2.2 3 - 1))) (40 * (3 + (a.2.2 3 - 1)))) w2 := (ld_mR (m := setI m 20 (nI (a.2.2 3 - 1))) (b := 3 + (a.2.2 3 - 1)) hk).w2 hw2
    have h3 : MR (nowA (fgA a (a.2.2 3 - 1)) w2) (kM (ldM (setI m 20 (nI (a.2.2 3 - 1))) (40 * (3 + (a.2.2 3 - 1)))) (m.2 9) (nI 0) z) := mr_now (mr_fg hM (by omega)) (hmr.kM _ _ _) rfl rfl rfl rfl rfl rfl rfl rfl
    exact h9 _ s h3
theorem m_image {a : Ab} {m : MS} {s : S3} {w2 : WS} (hI : Inv a) (hM : MR a m) (hw2 : wEq w2 (a.1 0)) {K : Option Value → AH → Prop} (hK : ∀ m2 (s2 : S3), MR (imgA a w2) m2 → K (some (.int ((a.1 0).1 3))) (mC m2 s2.1 s2.2.2)) : am_M i_X12_image [.ref 0] (mC m s.1 s.2.2) K := by
  refine e_X12_image [] ?_
  conv => whnf
  refine ⟨(Or.inr nI_one), ?_⟩
  conv => whnf
  refine m_save (m := setI m 17 (nI 1)) (s := s) (b := 0) (by omega) (fun F z k1 k2 => ?_)
  refine b_X12_image [] ?_
  conv => whnf
  rw [← (hM.x hI).dy] at hK
  refine hK _ s ?_
  have hpk : ∀ j, j < 36 → pkM (setI m 17 (nI 1)) j = pkW w2 j := fun j hj => pkM_eq ((hM.1.s 17 (by decide) (nI 1)).w2 hw2) hj
  obtain ⟨a1, a2, a3, a4, a5, a6, a7⟩ := hM
  have e : ∀ j, j ≠ 17 → j ≠ 18 → j ≠ 19 → (kM (setI m 17 (nI 1)) F (nI 1) z).1 j = m.1 j := fun j h1 h2 h3 => (if_neg h3).trans ((if_neg h2).trans (if_neg h1))
  have e9 : ∀ j, j ≠ 9 → (kM (setI m 17 (nI 1)) F (nI 1) z).2 j = m.2 j := fun j h1 => if_neg h1
  have e2 : ∀ j, j ≠ 1 → va_up a.1 1 w2 j = a.1 j := fun j hj => if_neg hj
  refine ⟨⟨fun i hi => (e (i + 5) (by omega) (by omega) (by omega)).trans (a1.1 i hi), fun i hi => by rw [e9 _ (by omega)]; exact a1.2 i hi⟩, a2, a3, a4, ⟨rfl, fun _ j hj => ?_⟩, a6, fun k hk j hj => ?_⟩
  · show F (40 * 0 + j) = pkW w2 j
    rw [k1 j hj, hpk j hj]
  · show F (40 * (3 + k) + j) = pkW (va_up a.1 1 w2 (2 + k)) j
    rw [e2 _ (by omega), k2 _ (by omega)]
    exact a7 k hk j hj
theorem m_restore {a : Ab} {m : MS} {s : S3} {w2 : WS} (hI : Inv a) (hM : MR a m) {K : Option Value → AH → Prop} (h1 : a.2.2 0 = 0 → ∀ m2 (s2 : S3), MR (qB a (Int32.ofInt (-3))) m2 → K (some (.int (Int32.ofInt (-3)))) (mC m2 s2.1 s2.2.2)) (h0 : ¬ a.2.2 0 = 0 → wEq w2 (a.1 1) ∧ ∀ m2 (s2 : S3), MR (fgA (nowA a w2) 0) m2 → K (some (.int (w2.1 3))) (mC m2 s2.1 s2.2.2)) : am_M i_X12_restore [.ref 0] (mC m s.1 s.2.2) K := by
  have e17 := hM.2.2.2.2.1.1
  have hi01 := hI.2.1
  refine e_X12_restore [] ?_
  conv => whnf
  refine ⟨fun c4 => ?_, fun c4 => ?_⟩
  · conv => whnf
    refine m_no (x := Int32.ofInt (-3)) (by first | (unfold rfs; decide) | exact fNoBlow_r (by assumption) | exact fFirst_r fNoTh_r fNoTh_r (by assumption) | exact fFirst_r fBelow_r fAbove_r (by assumption)) ?_
    refine b_X12_restore [] ?_
    conv => whnf
    exact h1 ((nI_eq (by omega) (by decide)).mp ((e17.symm.trans c4).trans nI_0.symm)) _ s (hM.bump (by first | (unfold rfs; decide) | exact fNoBlow_r (by assumption) | exact fFirst_r fNoTh_r fNoTh_r (by assumption) | exact fFirst_r fBelow_r fAbove_r (by assumption)))
  · refine b_X12_restore [] ?_
    conv => whnf
    have hz : ¬ a.2.2 0 = 0 := fun z => c4 (by rw [e17, z, nI_0])
    obtain ⟨hw2, h9⟩ := h0 hz
    refine m_load (m := m) (s := s) (b := 0) (by omega) (fun z => ?_)
    refine b_X12_restore [] ?_
    conv => whnf
    have hk : kpt (m.2 9) 0 (a.1 1) := hM.2.2.2.2.1.2 (by omega)
    have hmr : mR (ldM m (40 * 0)) w2 := (ld_mR (m := m) (b := 0) hk).w2 hw2
    have e8 : (ldM m (40 * 0)).1 8 = w2.1 3 := hmr.1 3 (by decide)
    rw [← e8] at h9
    have h3 : MR (nowA (fgA a 0) w2) (setI (kM (ldM m (40 * 0)) (m.2 9) (nI 0) z) 20 (nI 0)) := mr_now (mr_fg hM (Nat.zero_le _)) ((hmr.kM _ _ _).s 20 (by decide) _) rfl rfl rfl rfl rfl rfl rfl rfl
    exact h9 _ s h3
