/-! SPECS of the model: the order, asked -/
/-- the wire put back after a thought -/
def rT (m2 m : MS) (w : WS) : Prop := mR m2 w ∧ (m2.1 24 = m.1 24 ∧ m2.1 13 = m.1 13 ∧ m2.1 17 = m.1 17 ∧ m2.1 20 = m.1 20) ∧ (m2.2 0 = m.2 0 ∧ m2.2 11 = m.2 11 ∧ m2.2 5 = m.2 5) ∧ ∀ j, (j < 80 ∨ 116 ≤ j) → m2.2 9 j = m.2 9 j
theorem mr_T {a : Ab} {m m2 : MS} (h : MR a m) (g : rT m2 m (a.1 0)) : MR a m2 := by
  obtain ⟨a1, a2, a3, a4, a5, a6, a7⟩ := h
  obtain ⟨b1, ⟨e24, e13, e17, e20⟩, ⟨f0, f11, f5⟩, f9⟩ := g
  refine ⟨b1, ?_, ⟨e24.trans a3.1, ?_⟩, ⟨e13.trans a4.1, ?_⟩, ⟨e17.trans a5.1, fun z j hj => ?_⟩, e20.trans a6, fun k hk j hj => ?_⟩
  · rw [f0]; exact a2
  · rw [f11]; exact a3.2
  · rw [f5]; exact a4.2
  · rw [f9 _ (by omega)]; exact a5.2 z j hj
  · rw [f9 _ (by omega)]; exact a7 k hk j hj
theorem m_thinks {m : MS} {s : S3} {K : Option Value → AH → Prop} (hK : ∀ F z, (∀ j, j < 36 → F (40 * 2 + j) = pkM m j) → (∀ j, (j < 40 * 2 ∨ 40 * 2 + 36 ≤ j) → F j = m.2 9 j) → K none (mC (kM m F (nI 1) z) s.1 s.2.2)) : am_M i_X12_thinks [.ref 0] (mC m s.1 s.2.2) K := by
  refine e_X12_thinks [] ?_
  conv => whnf
  refine m_save (b := 2) (by omega) (fun F z k1 k2 => ?_)
  refine b_X12_thinks [] ?_
  conv => whnf
  exact hK F z k1 k2
theorem m_forgets {m : MS} {s : S3} {K : Option Value → AH → Prop} (hK : ∀ z, K none (mC (kM (ldM m (40 * 2)) (m.2 9) (nI 0) z) s.1 s.2.2)) : am_M i_X12_forgets [.ref 0] (mC m s.1 s.2.2) K := by
  refine e_X12_forgets [] ?_
  conv => whnf
  refine m_load (b := 2) (by omega) (fun z => ?_)
  refine b_X12_forgets [] ?_
  conv => whnf
  exact hK z
theorem m_fo {m : MS} {w w2 : WS} {n : Nat} {A P : Nat → Nat} {s : S3} {v : Int32} {f : Nat → Int32} {R : Int32 × (Nat → Int32)} (h : mX m w n A P) (hn6 : n ≤ 6) (hv : ¬ v ≤ 0) (hw2 : wEq w2 w) (hR : R = (mldF n v 720 (itr layF n 0 (wI w2 2 (nI 0))) (nI 9) f)) {K : Option Value → AH → Prop} (hK : ∀ (m2 : MS) (s2 : S3), rT m2 m w → (∀ j, j < n → m2.2 12 j = R.2 j) → K (some (.int R.1)) (mC m2 s2.1 s2.2.2)) : am_M i_X12_findOrder [.ref 0, .int v] (mC m s.1 s.2.2) K := by
  have hn : w2.1 0 = nI n := (hw2.1 0 (by decide)).trans h.2.1
  obtain ⟨hl1, hl2⟩ := lay_at n n 0 (wI w2 2 (nI 0)) (fun j _ h => by omega) (by omega)
  have hend : endsIn n 720 (itr layF n 0 (wI w2 2 (nI 0))) := order_ends hn6 (fun j hj => (hl2 j hj).1)
  have hwx : wEx (itr layF n 0 (wI w2 2 (nI 0))) n := lay_ok hn (by omega) _
  generalize hL : itr layF n 0 (wI w2 2 (nI 0)) = wL at hR hend hwx
  refine e_X12_findOrder [19] ?_
  conv => whnf
  refine m_thinks (m := m) (s := s) (fun F z k1 k2 => ?_)
  refine b_X12_findOrder [19] ?_
  conv => whnf
  have hmr : mR (setI (kM m F (nI 1) z) 7 (nI 0)) (wI w2 2 (nI 0)) := ((h.1.w2 hw2).kM F (nI 1) z).I 2 (nI 0)
  refine m_sorts (M := setI (kM m F (nI 1) z) 7 (nI 0)) (s := s) (w := wI w2 2 (nI 0)) (n := n) h.n8 h.n hmr (fun M hm hv4 => ?_)
  rw [hL] at hm
  refine b_X12_findOrder [19] ?_
  conv => whnf
  refine am_wk (by exact ⟨Or.inr rfl, Or.inr rfl, Or.inr rfl, Or.inr rfl, Or.inl rfl, Or.inl rfl, trivial⟩) (ml_or (M0 := M) (R := R) hv (fun M3 s3 hO hF => ?_) 720 wL M s (nI 1000) (nI 9) f hend hm hwx (vO.rf M) (Or.inr ⟨rfl, rfl⟩) hR.symm)
  refine b_X12_findOrder [89] ?_
  conv => whnf
  refine m_forgets (m := M3) (s := s3) (fun z3 => ?_)
  refine b_X12_findOrder [89] ?_
  conv => whnf
  refine hK _ s3 ⟨?_, ?_, ?_, ?_⟩ hF
  · have hk : kpt (M3.2 9) 2 w := fun j hj => by
      rw [hO.2 9 (by decide) (by decide), hv4.2 9 (by decide)]
      exact (k1 j hj).trans (pkM_eq h.1 hj)
    exact (ld_mR hk).kM _ _ _
  · have e : ∀ j, 9 ≤ j → j ≠ 18 → j ≠ 19 → M3.1 j = m.1 j := fun j h1 h2 h3 => by
      rw [hO.1, hv4.1]
      show va_up (va_up (va_up m.1 18 (nI 1)) 19 z) 7 (nI 0) j = _
      unfold va_up
      rw [if_neg (by omega), if_neg (by omega), if_neg (by omega)]
    exact ⟨e 24 (by decide) (by decide) (by decide), e 13 (by decide) (by decide) (by decide), e 17 (by decide) (by decide) (by decide), e 20 (by decide) (by decide) (by decide)⟩
  · have e : ∀ j, j ≠ 4 → j ≠ 12 → j ≠ 9 → M3.2 j = m.2 j := fun j h1 h2 h3 => by
      rw [hO.2 j h1 h2, hv4.2 j h1]
      show va_up m.2 9 F j = _
      unfold va_up
      rw [if_neg h3]
    exact ⟨e 0 (by decide) (by decide) (by decide), e 11 (by decide) (by decide) (by decide), e 5 (by decide) (by decide) (by decide)⟩
  · intro j hj
    show M3.2 9 j = _
    rw [hO.2 9 (by decide) (by decide), hv4.2 9 (by decide)]
    exact k2 j hj
theorem fOrd_n {r t x : Int32} (h : r = x) (hx : ¬ x = 0) : fOrd r t = x := by rw [fOrd, if_neg (by rw [h]; exact hx), h]
theorem fOrd_3 {r t : Int32} (h : r = 0) (c : ¬ t ≤ nI 6) : fOrd r t = Int32.ofInt (-3) := by rw [fOrd, if_pos h, if_neg c]
theorem m1_of {i : Int32} (h : Int32.ofInt (-1) ≤ i) (h2 : ¬ 0 ≤ i) : i = Int32.ofInt (-1) := by
  rw [Int32.le_iff_toInt_le] at h h2
  apply Int32.toInt_inj.mp
  have e1 : (Int32.ofInt (-1)).toInt = -1 := by decide
  have e2 : Int32.toInt 0 = 0 := by decide
  rw [e1] at h ⊢
  rw [e2] at h2
  omega
theorem fOrd_z {r t : Int32} (h : r = 0) (c : t ≤ nI 6) : fOrd r t = 0 := by rw [fOrd, if_pos h, if_pos c, h]
theorem m_order {a : Ab} {m : MS} {s : S3} {v i : Int32} {w2 : WS} {f : Nat → Int32} {R : Int32 × (Nat → Int32)} (hI : Inv a) (hM : MR a m) (hw2 : wEq w2 (a.1 0)) (hR : R = (mldF (nO (a.1 0)) v 720 (itr layF (nO (a.1 0)) 0 (wI w2 2 (nI 0))) (nI 9) f)) {K : Option Value → AH → Prop} (hK : ∀ m2 (s2 : S3), MR (qB a (fOrd (fFirst (fFirst (fBelow v (nI 1)) (fBelow i (Int32.ofInt (-1)))) (fAbove v (nI 60))) ((a.1 0).1 0))) m2 → K (some (.int (qA (fOrd (fFirst (fFirst (fBelow v (nI 1)) (fBelow i (Int32.ofInt (-1)))) (fAbove v (nI 60))) ((a.1 0).1 0)) (if i = Int32.ofInt (-1) then R.1 else thaF ((a.1 0).1 0) i R.2)))) (mC m2 s2.1 s2.2.2)) : am_M i_X12_order [.ref 0, .int v, .int i] (mC m s.1 s.2.2) K := by
  have h := hM.x hI
  have hn := hI.n
  have hn8 := hI.n8
  generalize hr : (fOrd (fFirst (fFirst (fBelow v (nI 1)) (fBelow i (Int32.ofInt (-1)))) (fAbove v (nI 60))) ((a.1 0).1 0)) = rr at hK
  refine e_X12_order [] ?_
  conv => whnf
  refine ⟨fun c2 => ?_, fun c2 => ?_⟩
  · refine b_X12_order [] ?_
    conv => whnf
    refine b_X12_order [] ?_
    conv => whnf
    refine ⟨fun c43 => absurd c43 (by decide), fun c43 => ?_⟩
    conv => whnf
    refine m_no (x := Int32.ofInt (-4)) (by unfold rfs; decide) ?_
    refine b_X12_order [] ?_
    conv => whnf
    have e0 : rr = Int32.ofInt (-4) := by rw [← hr]; exact fOrd_n (fFn (fFn (be_T c2) (by decide)) (by decide)) (by decide)
    rw [e0, qA_n (by decide)] at hK
    exact hK _ s (hM.bump (by unfold rfs; decide))
  · conv => whnf
    refine ⟨fun c7 => ?_, fun c7 => ?_⟩
    · refine b_X12_order [] ?_
      conv => whnf
      refine ⟨fun c18 => ?_, fun c18 => ?_⟩
      · refine b_X12_order [] ?_
        conv => whnf
        refine ⟨fun c32 => ?_, fun c32 => ?_⟩
        · refine b_X12_order [] ?_
          conv => whnf
          refine ⟨fun c43 => ?_, fun c43 => absurd (by decide) c43⟩
          refine b_X12_order [] ?_
          conv => whnf
          have e0 : rr = 0 := by rw [← hr]; exact fOrd_z (fF0 (fF0 (be_F c2) (be_P c7)) (ab_P c18)) (by rw [← hM.n]; exact c32)
          rw [qA_0 e0, qB_0 e0] at hK
          have hv0 : ¬ v ≤ 0 := fun z => c2 (Int32.lt_of_le_of_lt z (by decide))
          have hn6 : nO (a.1 0) ≤ 6 := (nI_leI (by omega) (by decide)).mp (by rw [← h.n]; exact c32)
          refine m_fo h hn6 hv0 hw2 hR (fun m2 s2 hT hF => ?_)
          have h9 := hK m2 s2 (mr_T hM hT)
          have e5 : m2.1 5 = nI (nO (a.1 0)) := (mr_T hM hT).x hI |>.n
          refine b_X12_order [] ?_
          conv => whnf
          refine ⟨fun c60 => ?_, fun c60 => ?_⟩
          · refine b_X12_order [] ?_
            conv => whnf
            refine ⟨fun c73 => ?_, fun c73 => ?_⟩
            · refine b_X12_order [] ?_
              conv => whnf
              rw [if_neg (fun z => absurd c60 (by rw [z]; decide)), thaF, if_neg (Int32.not_lt.mpr c60), if_pos (by rw [hn, ← e5]; exact c73)] at h9
              exact h9
            · conv => whnf
              refine ⟨(by rw [e5] at c73; obtain ⟨x, hx, rfl⟩ := nI_of (Int32.not_lt.mpr c60); exact vp_in_nI (by have : ¬ nO (a.1 0) ≤ x := (fun z => c73 (nI_le z hx)); omega) (by decide)), ?_⟩
              conv => whnf
              refine b_X12_order [] ?_
              conv => whnf
              rw [if_neg (fun z => absurd c60 (by rw [z]; decide)), thaF, if_neg (Int32.not_lt.mpr c60), if_neg (by rw [hn, ← e5]; exact c73)] at h9
              rw [← hF _ (by rw [e5] at c73; obtain ⟨x, hx, rfl⟩ := nI_of (Int32.not_lt.mpr c60); rw [nI_clamp hx]; have : ¬ nO (a.1 0) ≤ x := (fun z => c73 (nI_le z hx)); omega)] at h9
              exact h9
          · conv => whnf
            refine b_X12_order [] ?_
            conv => whnf
            rw [if_pos (m1_of c7 c60)] at h9
            exact h9
        · conv => whnf
          refine b_X12_order [] ?_
          conv => whnf
          refine ⟨fun c43 => absurd c43 (by decide), fun c43 => ?_⟩
          conv => whnf
          refine m_no (x := Int32.ofInt (-3)) (by unfold rfs; decide) ?_
          refine b_X12_order [] ?_
          conv => whnf
          have e0 : rr = Int32.ofInt (-3) := by rw [← hr]; exact fOrd_3 (fF0 (fF0 (be_F c2) (be_P c7)) (ab_P c18)) (by rw [← hM.n]; exact c32)
          rw [e0, qA_n (by decide)] at hK
          exact hK _ s (hM.bump (by unfold rfs; decide))
      · conv => whnf
        refine b_X12_order [] ?_
        conv => whnf
        refine ⟨fun c43 => absurd c43 (by decide), fun c43 => ?_⟩
        conv => whnf
        refine m_no (x := Int32.ofInt (-6)) (by unfold rfs; decide) ?_
        refine b_X12_order [] ?_
        conv => whnf
        have e0 : rr = Int32.ofInt (-6) := by rw [← hr]; exact fOrd_n (fF0 (fF0 (be_F c2) (be_P c7)) (ab_Q c18)) (by decide)
        rw [e0, qA_n (by decide)] at hK
        exact hK _ s (hM.bump (by unfold rfs; decide))
    · conv => whnf
      refine b_X12_order [] ?_
      conv => whnf
      refine ⟨fun c43 => absurd c43 (by decide), fun c43 => ?_⟩
      conv => whnf
      refine m_no (x := Int32.ofInt (-4)) (by unfold rfs; decide) ?_
      refine b_X12_order [] ?_
      conv => whnf
      have e0 : rr = Int32.ofInt (-4) := by rw [← hr]; exact fOrd_n (fFn (fF0 (be_F c2) (be_Q c7)) (by decide)) (by decide)
      rw [e0, qA_n (by decide)] at hK
      exact hK _ s (hM.bump (by unfold rfs; decide))
