theorem ml_ws {M : MS} {w : WS} {n : Nat} {A P : Nat → Nat} {s : S3} {i : Int32} (h : mX M w n A P) (hg : wGn w n) {K : Option Value → AH → Prop} : ∀ (q t : Nat) (z : Int32), t + q = n - 1 → K (some (.int (itr (fun i x => x + fWay w i) q t z))) (mC M s.1 s.2.2) → am_E i_X12_walk 23 [some (.ref 0), some (.int i), some (.int (z)), some (.int (nI (t + 1)))] [] (mC M s.1 s.2.2) K := by
  have hn := h.n
  have hn8 := h.n8
  obtain ⟨f1, f2⟩ := cF_ok hg
  intro q
  induction q with
  | zero =>
    intro t z ht hK
    refine b_X12_walk [23] ?_
    conv => whnf
    refine ⟨fun c28 => ?_, fun c28 => absurd (by show M.1 5 ≤ nI (t + 1); rw [hn]; exact nI_le (by omega) (by omega)) c28⟩
    refine b_X12_walk [23] ?_
    conv => whnf
    exact hK
  | succ q ih =>
    intro t z ht hK
    obtain ⟨a1, a2, -⟩ := h.wA (show t + 1 < n by omega)
    obtain ⟨b1, b2, -⟩ := h.wA (show t < n by omega)
    have ew : fWay w t = nI (dsN (cF w n (A (t + 1))) (cF w n (A t))) := by
      unfold fWay
      rw [(h.2.2.2.1 (t + 1) (by omega)).1, (h.2.2.2.1 t (by omega)).1, nI_clamp (by omega), nI_clamp (by omega), f1 _ a2, f1 _ b2, abs_ds (f2 _) (f2 _)]
    refine b_X12_walk [23] ?_
    conv => whnf
    refine ⟨fun c28 => absurd c28 (by show ¬ M.1 5 ≤ nI (t + 1); rw [hn]; exact nI_ge (by omega) (by omega)), fun c28 => ?_⟩
    conv => whnf
    refine ⟨(vp_in_nI (show t + 1 < 8 by omega) (by decide)), ?_⟩
    rw [nI_clamp (show t + 1 < 2 ^ 31 by omega), a1]
    conv => whnf
    refine ⟨(vp_in_nI (show A (t + 1) < 8 by omega) (by decide)), ?_⟩
    rw [nI_clamp (show A (t + 1) < 2 ^ 31 by omega)]
    rw [show M.2 3 (A (t + 1)) = nI (cF w n (A (t + 1))) from (h.a (by omega)).trans (f1 _ a2)]
    conv => whnf
    refine ⟨(by rw [nI_m (t + 1) (by omega)]; exact vp_in_nI (show t < 8 by omega) (by decide)), ?_⟩
    rw [nI_m (t + 1) (by omega), Nat.add_sub_cancel, nI_clamp (show t < 2 ^ 31 by omega), b1]
    conv => whnf
    refine ⟨(vp_in_nI (show A t < 8 by omega) (by decide)), ?_⟩
    rw [nI_clamp (show A t < 2 ^ 31 by omega)]
    rw [show M.2 3 (A t) = nI (cF w n (A t)) from (h.a (by omega)).trans (f1 _ b2)]
    conv => whnf
    refine m_far ?_
    rw [far_N (f2 _) (f2 _), ← ew]
    refine b_X12_walk [23] ?_
    conv => whnf
    have h9 := ih (t + 1) (z + fWay w t) (by omega) hK
    rw [← nI_add (t + 1) 1] at h9
    exact h9
theorem mr_s13 {a : Ab} {m : MS} (h : MR a m) (T : Nat → Int32) : MR a (setA m 13 T) := ⟨⟨h.1.1, fun i hi => by
  rw [show (setA m 13 T).2 (i + 1) = m.2 (i + 1) from (show va_up m.2 13 T (i + 1) = m.2 (i + 1) from if_neg (by omega))]
  exact h.1.2 i hi⟩, h.2⟩
theorem m_walk {a : Ab} {m : MS} {s : S3} {i : Int32} {f g r d : Nat → Int32} (hI : Inv a) (hM : MR a m) (hr : r = itr (srtI (a.1 0) (nI 1)) (nO (a.1 0)) 0 g) (hd : d = itr (srtI (a.1 0) (Int32.ofInt (-1))) (nO (a.1 0)) 0 f) {K : Option Value → AH → Prop} (hK : ∀ m2 (s2 : S3), MR (qB a (fBelow i (Int32.ofInt (-2)))) m2 → K (some (.int (qA (fBelow i (Int32.ofInt (-2))) (if i = Int32.ofInt (-2) then fWalk (a.1 0) (nO (a.1 0)) else if i = Int32.ofInt (-1) then shwV (a.1 0) (nO (a.1 0)) r d else thaF ((a.1 0).1 0) i (shwA (nO (a.1 0)) r d))))) (mC m2 s2.1 s2.2.2)) : am_M i_X12_walk [.ref 0, .int i] (mC m s.1 s.2.2) K := by
  have h := hM.x hI
  have hn := hI.n
  have hn8 := hI.n8
  have hg := hI.1.n
  obtain ⟨c, x, X, hS, hc, hds, hV, hP, hA, hW⟩ := shw_ok hg hn8 hr hd
  refine e_X12_walk [23] ?_
  conv => whnf
  refine ⟨fun c3 => ?_, fun c3 => ?_⟩
  · refine b_X12_walk [23] ?_
    conv => whnf
    rw [be_P c3, qA_0 rfl, qB_0 rfl] at hK
    refine ⟨fun c16 => ?_, fun c16 => ?_⟩
    · conv => whnf
      rw [if_pos c16] at hK
      refine ml_ws h hg (nO (a.1 0) - 1) 0 (nI 0) (by omega) ?_
      exact hK m s hM
    · refine b_X12_walk [23] ?_
      conv => whnf
      rw [if_neg c16] at hK
      refine m_fs h hg (fun T hT => ?_)
      refine b_X12_walk [23] ?_
      conv => whnf
      refine ⟨fun c74 => ?_, fun c74 => ?_⟩
      · refine b_X12_walk [23] ?_
        conv => whnf
        refine ⟨fun c97 => ?_, fun c97 => ?_⟩
        · refine b_X12_walk [23] ?_
          conv => whnf
          rw [if_neg (fun z => absurd c74 (by rw [z]; decide)), thaF, if_neg (Int32.not_lt.mpr c74), if_pos (by rw [← hM.n]; exact c97)] at hK
          exact hK _ s (mr_s13 hM _)
        · conv => whnf
          obtain ⟨j, hj, ej⟩ := nI_of (Int32.not_lt.mpr c74)
          have hjn : j < nO (a.1 0) := by
            have : ¬ nO (a.1 0) ≤ j := fun z => c97 (by show m.1 5 ≤ i; rw [h.n, ej]; exact nI_le z hj)
            omega
          have hx9 : shwA (nO (a.1 0)) r d i.toNatClampNeg = nI (x j) := by rw [ej, nI_clamp hj]; exact hA j hjn
          rw [ej]
          refine m_wd h hg hT hS hc hds hV (hP (by omega)) hjn ?_
          refine b_X12_walk [23] ?_
          conv => whnf
          refine b_X12_walk [23] ?_
          conv => whnf
          rw [if_neg (fun z => absurd c74 (by rw [z]; decide)), thaF, if_neg (Int32.not_lt.mpr c74), if_neg (by rw [← hM.n]; exact c97), hx9] at hK
          exact hK _ s (mr_s13 hM _)
      · conv => whnf
        have hm1 : Int32.ofInt (-1) ≤ i := by
          rw [Int32.le_iff_toInt_le] at c3 ⊢
          have e1 : (Int32.ofInt (-2)).toInt = -2 := by decide
          have e2 : (Int32.ofInt (-1)).toInt = -1 := by decide
          have e3 : i.toInt ≠ -2 := fun z => c16 (Int32.toInt_inj.mp (by rw [z, e1]))
          rw [e1] at c3
          rw [e2]
          omega
        rw [show (nI 1 <<< ((setA m 13 T).1 5 &&& 31)) - nI 1 = nI (2 ^ (nO (a.1 0)) - 1) from full_sh h.n hn8]
        refine m_sho h hg hT ?_
        refine b_X12_walk [23] ?_
        conv => whnf
        refine b_X12_walk [23] ?_
        conv => whnf
        rw [if_pos (m1_of hm1 c74), hW] at hK
        exact hK _ s (mr_s13 hM _)
  · conv => whnf
    refine m_no (x := Int32.ofInt (-4)) (by unfold rfs; decide) ?_
    refine b_X12_walk [23] ?_
    conv => whnf
    rw [be_Q c3, qA_n (by decide)] at hK
    exact hK _ s (hM.bump (by unfold rfs; decide))
