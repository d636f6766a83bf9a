/-! SPECS of the model: a statement comes -/
def vW (M2 M : MS) : Prop := M2.1 15 = M.1 15 ∧ M2.1 13 = M.1 13 ∧ M2.1 24 = M.1 24 ∧ M2.1 17 = M.1 17 ∧ M2.1 20 = M.1 20 ∧ M2.2 0 = M.2 0 ∧ M2.2 5 = M.2 5 ∧ M2.2 6 = M.2 6 ∧ M2.2 7 = M.2 7 ∧ M2.2 8 = M.2 8 ∧ M2.2 9 = M.2 9 ∧ M2.2 11 = M.2 11
theorem vW.rf (M : MS) : vW M M := ⟨rfl, rfl, rfl, rfl, rfl, rfl, rfl, rfl, rfl, rfl, rfl, rfl⟩
theorem vW.tr {A B C : MS} (h : vW A B) (g : vW B C) : vW A C := ⟨h.1.trans g.1, h.2.1.trans g.2.1, h.2.2.1.trans g.2.2.1, h.2.2.2.1.trans g.2.2.2.1, h.2.2.2.2.1.trans g.2.2.2.2.1, h.2.2.2.2.2.1.trans g.2.2.2.2.2.1, h.2.2.2.2.2.2.1.trans g.2.2.2.2.2.2.1, h.2.2.2.2.2.2.2.1.trans g.2.2.2.2.2.2.2.1, h.2.2.2.2.2.2.2.2.1.trans g.2.2.2.2.2.2.2.2.1, h.2.2.2.2.2.2.2.2.2.1.trans g.2.2.2.2.2.2.2.2.2.1, h.2.2.2.2.2.2.2.2.2.2.1.trans g.2.2.2.2.2.2.2.2.2.2.1, h.2.2.2.2.2.2.2.2.2.2.2.trans g.2.2.2.2.2.2.2.2.2.2.2⟩
theorem fDropR_all {t br dy x v : Int32} (h : fDropR t br dy x v = 0) : fNoTh t x = 0 ∧ fNoBlow v = 0 ∧ fAbove (dy + nI 1) (nI 999) = 0 ∧ hasB br x = false := by
  unfold fDropR at h
  by_cases c : fFirst (fFirst (fNoTh t x) (fNoBlow v)) (fAbove (dy + nI 1) (nI 999)) = 0
  · rw [if_pos c] at h
    obtain ⟨h1, h3⟩ := fFirst_0 c
    obtain ⟨h1, h2⟩ := fFirst_0 h1
    refine ⟨h1, h2, h3, ?_⟩
    by_cases d : hasB br x = true
    · rw [if_pos d] at h; exact absurd h (by decide)
    · exact Bool.not_eq_true _ |>.mp d
  · rw [if_neg c] at h; exact absurd h c
theorem fMendR_all {t br x : Int32} (h : fMendR t br x = 0) : fNoTh t x = 0 ∧ hasB br x = true := by
  unfold fMendR at h
  by_cases c : fNoTh t x = 0
  · rw [if_pos c] at h
    by_cases d : hasB br x = true
    · exact ⟨c, d⟩
    · rw [if_neg d] at h; exact absurd h (by decide)
  · rw [if_neg c] at h; exact absurd h c
theorem fChgR_all {t x y : Int32} (h : fChgR t x y = 0) : fNoTh t x = 0 ∧ fNoTh t y = 0 ∧ x ≠ y := by
  unfold fChgR at h
  by_cases c : fFirst (fNoTh t x) (fNoTh t y) = 0
  · rw [if_pos c] at h
    by_cases d : x = y
    · rw [if_pos d] at h; exact absurd h (by decide)
    · exact ⟨(fFirst_0 c).1, (fFirst_0 c).2, d⟩
  · rw [if_neg c] at h; exact absurd h c
theorem fIn_nb {v : Int32} : fIn v (nI 1) (nI 60) = true ↔ fNoBlow v = 0 := by
  rw [← fBound_nb]
  unfold fIn fBound
  by_cases h1 : v < nI 1
  · rw [decide_eq_true h1, if_neg (Int32.not_le.mpr h1), Bool.not_true, Bool.false_and]
    exact ⟨fun z => absurd z (by decide), fun z => absurd z (by decide)⟩
  · rw [decide_eq_false h1, if_pos (Int32.not_lt.mp h1)]
    by_cases h2 : nI 60 < v
    · rw [decide_eq_true h2, if_neg (Int32.not_le.mpr h2)]
      exact ⟨fun z => absurd z (by decide), fun z => absurd z (by decide)⟩
    · rw [decide_eq_false h2, if_pos (Int32.not_lt.mp h2)]
      exact ⟨fun _ => nI_0, fun _ => rfl⟩
theorem th_n {t x : Int32} (h : fNoTh t x = 0) : ¬ bI (fIsTh t x) = 0 := fun c => by rw [th_T c] at h; exact absurd h (by decide)
theorem m_cdr {M : MS} {w : WS} {n : Nat} {A P : Nat → Nat} {s : S3} {t1 : Nat} {v : Int32} (h : mX M w n A P) (hd : ∃ d, d ≤ 999 ∧ w.1 3 = nI d) (ht1 : t1 ≤ 9) {K : Option Value → AH → Prop} (hT : fDropR (w.1 0) (w.1 1) (w.1 3) (nI t1) v = 0 → ∀ (M2 : MS) (s2 : S3), vW M2 M → mR M2 (wDrop w (blw w n (P t1) v).2.2) → K (some (.int (nI 1))) (mC M2 s2.1 s2.2.2)) (hF : ¬ fDropR (w.1 0) (w.1 1) (w.1 3) (nI t1) v = 0 → K (some (.int (nI 0))) (mC M s.1 s.2.2)) : am_M i_X12_comesDrop [.ref 0, .int (nI t1), .int v] (mC M s.1 s.2.2) K := by
  have hday : M.1 8 = w.1 3 ∧ ∃ d, d ≤ 999 ∧ w.1 3 = nI d := ⟨h.dy, hd⟩
  refine e_X12_comesDrop [] ?_
  conv => whnf
  refine m_isThing (m := M) (g := s.1) (b := s.2.2) ?_
  rw [show M.1 5 = w.1 0 from h.1.1 0 (by decide)]
  refine b_X12_comesDrop [] ?_
  conv => whnf
  refine ⟨fun c5 => ?_, fun c5 => ?_⟩
  · refine b_X12_comesDrop [] ?_
    conv => whnf
    refine ⟨(by first | exact Or.inl nI_0 | exact Or.inr nI_one | assumption), ?_⟩
    exact hF (fun z => th_n (fDropR_all z).1 c5)
  · conv => whnf
    rw [h.br]
    refine m_has ?_
    rw [hasMx ⟨t1, by omega, rfl⟩]
    refine b_X12_comesDrop [] ?_
    conv => whnf
    refine ⟨fun c16 => ?_, fun c16 => ?_⟩
    · conv => whnf
      refine m_isIn ?_
      refine b_X12_comesDrop [] ?_
      conv => whnf
      refine ⟨fun c26 => ?_, fun c26 => ?_⟩
      · refine b_X12_comesDrop [] ?_
        conv => whnf
        refine ⟨(by first | exact Or.inl nI_0 | exact Or.inr nI_one | assumption), ?_⟩
        exact hF (fun z => absurd (fIn_nb.mpr (fDropR_all z).2.1) (by rw [bI_0.mp c26]; decide))
      · conv => whnf
        refine ⟨fun c36 => ?_, fun c36 => ?_⟩
        · conv => whnf
          refine ⟨(by first | exact Or.inl nI_0 | exact Or.inr nI_one | assumption), ?_⟩
          exact hF (fun z => absurd (fDropR_all z).2.2.1 (by rw [day_T hday c36]; decide))
        · refine b_X12_comesDrop [] ?_
          conv => whnf
          have hr : fDropR (w.1 0) (w.1 1) (w.1 3) (nI t1) v = 0 := dropR_z (fF0 (fF0 (th_F c5) (fIn_nb.mp (bI_n0.mp c26))) (day_F hday c36)) (bI_0.mp c16)
          obtain ⟨tt, htn, ett⟩ := fNoTh_0 (n := n) (by have := h.n8; omega) (by rw [← h.2.1]; exact th_F c5)
          have ht2 : t1 < n := by have := (nI_eq (by omega) (by have := h.n8; omega)).mp ett; omega
          obtain ⟨v_, hv1, hv2, rfl⟩ := fNoBlow_0 (fIn_nb.mp (bI_n0.mp c26))
          refine m_bb (m := M) (z := M.1 6) (s := s) h ht2 (v_b hv1 (by omega)) (fun s2 hs2 hb2 => ?_)
          have eb : blw (brW w (M.1 6)) n (P t1) (nI v_) = blw w n (P t1) (nI v_) := by
            rw [h.br]
            exact (blw_br (v := w) h.2 (h.P ht2).1 rfl rfl).symm
          rw [eb] at hs2
          refine b_X12_comesDrop [] ?_
          conv => whnf
          refine ⟨(by first | exact Or.inl nI_0 | exact Or.inr nI_one | assumption), ?_⟩
          have hmr : mR (setI (setI M 6 (M.1 6 ||| s2.2.2)) 8 (M.1 8 + nI 1)) (wDrop w (blw w n (P t1) (nI v_)).2.2) := by
            have h3 := (h.1.I 1 (M.1 6 ||| s2.2.2)).I 3 (M.1 8 + nI 1)
            unfold wDrop
            rw [← hs2.2, ← h.br, ← h.dy]
            exact h3
          exact hT hr (setI (setI M 6 (M.1 6 ||| s2.2.2)) 8 (M.1 8 + nI 1)) s2 ⟨rfl, rfl, rfl, rfl, rfl, rfl, rfl, rfl, rfl, rfl, rfl, rfl⟩ hmr
    · refine b_X12_comesDrop [] ?_
      conv => whnf
      refine ⟨(by first | exact Or.inl nI_0 | exact Or.inr nI_one | assumption), ?_⟩
      exact hF (fun z => absurd (fDropR_all z).2.2.2 (by rw [bI_n0.mp c16]; decide))
theorem m_co109 {M : MS} {w : WS} {n : Nat} {A P : Nat → Nat} {s : S3} {t1 : Nat} {y : Int32}  (h : mX M w n A P) (ht1 : t1 ≤ 9) {K : Option Value → AH → Prop} (hT : fMendR (w.1 0) (w.1 1) (nI t1) = 0 → ∀ (M2 : MS) (s2 : S3), vW M2 M → mR M2 (wI w 1 (butI (w.1 1) (nI t1))) → K (some (.int (nI 1))) (mC M2 s2.1 s2.2.2)) (hF : ¬ fMendR (w.1 0) (w.1 1) (nI t1) = 0 → ∀ M2 : MS, vW M2 M → K (some (.int (nI 0))) (mC M2 s.1 s.2.2)) : am_M i_X12_comesOther [.ref 0, .int (nI 109), .int (nI t1), .int y] (mC M s.1 s.2.2) K := by
  refine e_X12_comesOther [] ?_
  conv => whnf
  refine ⟨fun c3 => ?_, fun c3 => absurd rfl c3⟩
  conv => whnf
  refine m_isThing (m := M) (g := s.1) (b := s.2.2) ?_
  rw [show M.1 5 = w.1 0 from h.1.1 0 (by decide)]
  refine b_X12_comesOther [] ?_
  conv => whnf
  refine ⟨fun c11 => ?_, fun c11 => ?_⟩
  · refine b_X12_comesOther [] ?_
    conv => whnf
    refine ⟨(by first | exact Or.inl nI_0 | exact Or.inr nI_one | assumption), ?_⟩
    exact hF (fun z => th_n (fMendR_all z).1 c11) M (vW.rf M)
  · conv => whnf
    rw [h.br]
    refine m_has ?_
    rw [hasMx ⟨t1, by omega, rfl⟩]
    refine b_X12_comesOther [] ?_
    conv => whnf
    refine ⟨fun c22 => ?_, fun c22 => ?_⟩
    · conv => whnf
      refine ⟨(by first | exact Or.inl nI_0 | exact Or.inr nI_one | assumption), ?_⟩
      exact hF (fun z => absurd (fMendR_all z).2 (by rw [bI_0.mp c22]; decide)) M (vW.rf M)
    · refine b_X12_comesOther [] ?_
      conv => whnf
      refine ⟨(by first | exact Or.inl nI_0 | exact Or.inr nI_one | assumption), ?_⟩
      have h3 := h.1.I 1 (butI (w.1 1) (nI t1))
      rw [← h.br] at h3
      rw [← h.br] at hT
      exact hT (by rw [h.br]; exact mendR_z (th_F c11) (bI_n0.mp c22)) (setI M 6 (butI (M.1 6) (nI t1))) s ⟨rfl, rfl, rfl, rfl, rfl, rfl, rfl, rfl, rfl, rfl, rfl, rfl⟩ h3
theorem m_co99 {M : MS} {w : WS} {n : Nat} {A P : Nat → Nat} {s : S3} {t1 : Nat} {y : Int32}  (h : mX M w n A P) (ht1 : t1 ≤ 9) {K : Option Value → AH → Prop} (hT : fNoTh (w.1 0 - nI 1) (nI t1) = 0 → ∀ (M2 : MS) (s2 : S3), vW M2 M → mR M2 (wI w 2 (w.1 2 ^^^ (nI 1 <<< (nI t1 &&& 31)))) → K (some (.int (nI 1))) (mC M2 s2.1 s2.2.2)) (hF : ¬ fNoTh (w.1 0 - nI 1) (nI t1) = 0 → ∀ M2 : MS, vW M2 M → K (some (.int (nI 0))) (mC M2 s.1 s.2.2)) : am_M i_X12_comesOther [.ref 0, .int (nI 99), .int (nI t1), .int y] (mC M s.1 s.2.2) K := by
  refine e_X12_comesOther [] ?_
  conv => whnf
  refine ⟨fun c3 => absurd c3 (by decide), fun c3 => ?_⟩
  refine b_X12_comesOther [] ?_
  conv => whnf
  refine ⟨fun c46 => ?_, fun c46 => absurd rfl c46⟩
  conv => whnf
  refine m_isLink (m := M) (g := s.1) (b := s.2.2) ?_
  rw [show M.1 5 = w.1 0 from h.1.1 0 (by decide)]
  refine b_X12_comesOther [] ?_
  conv => whnf
  refine ⟨fun c59 => ?_, fun c59 => ?_⟩
  · refine b_X12_comesOther [] ?_
    conv => whnf
    refine m_isLink (m := setI M 7 (M.1 7 ^^^ nI 0)) (g := s.1) (b := s.2.2) ?_
    rw [show (setI M 7 (M.1 7 ^^^ nI 0)).1 5 = w.1 0 from h.1.1 0 (by decide), bI_0.mp c59]
    refine b_X12_comesOther [] ?_
    conv => whnf
    refine ⟨(bI_01 _), ?_⟩
    exact hF (fun z => th_n z c59) (setI M 7 (M.1 7 ^^^ nI 0)) ⟨rfl, rfl, rfl, rfl, rfl, rfl, rfl, rfl, rfl, rfl, rfl, rfl⟩
  · conv => whnf
    refine b_X12_comesOther [] ?_
    conv => whnf
    refine m_isLink (m := setI M 7 (M.1 7 ^^^ (nI 1 <<< (nI t1 &&& 31)))) (g := s.1) (b := s.2.2) ?_
    rw [show (setI M 7 (M.1 7 ^^^ (nI 1 <<< (nI t1 &&& 31)))).1 5 = w.1 0 from h.1.1 0 (by decide), bI_n0.mp c59]
    refine b_X12_comesOther [] ?_
    conv => whnf
    refine ⟨(bI_01 _), ?_⟩
    have h3 := h.1.I 2 (w.1 2 ^^^ (nI 1 <<< (nI t1 &&& 31)))
    rw [← h.cu] at h3
    rw [← h.cu] at hT
    exact hT (th_F c59) (setI M 7 (M.1 7 ^^^ (nI 1 <<< (nI t1 &&& 31)))) s ⟨rfl, rfl, rfl, rfl, rfl, rfl, rfl, rfl, rfl, rfl, rfl, rfl⟩ h3
theorem m_co120 {M : MS} {w : WS} {n : Nat} {A P : Nat → Nat} {s : S3} {t1 : Nat} {y : Int32} {t2 : Nat} (ht2 : t2 ≤ 9) (h : mX M w n A P) (ht1 : t1 ≤ 9) {K : Option Value → AH → Prop} (hT : fChgR (w.1 0) (nI t1) (nI t2) = 0 → ∀ (M2 : MS) (s2 : S3), vW M2 M → mR M2 (wXch w t1 t2) → K (some (.int (nI 1))) (mC M2 s2.1 s2.2.2)) (hF : ¬ fChgR (w.1 0) (nI t1) (nI t2) = 0 → ∀ M2 : MS, vW M2 M → K (some (.int (nI 0))) (mC M2 s.1 s.2.2)) : am_M i_X12_comesOther [.ref 0, .int (nI 120), .int (nI t1), .int (nI t2)] (mC M s.1 s.2.2) K := by
  refine e_X12_comesOther [] ?_
  conv => whnf
  refine ⟨fun c3 => absurd c3 (by decide), fun c3 => ?_⟩
  refine b_X12_comesOther [] ?_
  conv => whnf
  refine ⟨fun c46 => absurd c46 (by decide), fun c46 => ?_⟩
  refine b_X12_comesOther [] ?_
  conv => whnf
  refine m_isThing (m := M) (g := s.1) (b := s.2.2) ?_
  rw [show M.1 5 = w.1 0 from h.1.1 0 (by decide)]
  refine b_X12_comesOther [] ?_
  conv => whnf
  refine ⟨fun c84 => ?_, fun c84 => ?_⟩
  · refine b_X12_comesOther [] ?_
    conv => whnf
    refine ⟨(by first | exact Or.inl nI_0 | exact Or.inr nI_one | assumption), ?_⟩
    exact hF (fun z => th_n (fChgR_all z).1 c84) M (vW.rf M)
  · conv => whnf
    refine m_isThing (m := M) (g := s.1) (b := s.2.2) ?_
    rw [show M.1 5 = w.1 0 from h.1.1 0 (by decide)]
    refine b_X12_comesOther [] ?_
    conv => whnf
    refine ⟨fun c92 => ?_, fun c92 => ?_⟩
    · refine b_X12_comesOther [] ?_
      conv => whnf
      refine ⟨(by first | exact Or.inl nI_0 | exact Or.inr nI_one | assumption), ?_⟩
      exact hF (fun z => th_n (fChgR_all z).2.1 c92) M (vW.rf M)
    · conv => whnf
      refine ⟨fun c97 => ?_, fun c97 => ?_⟩
      · conv => whnf
        refine ⟨(by first | exact Or.inl nI_0 | exact Or.inr nI_one | assumption), ?_⟩
        exact hF (fun z => (fChgR_all z).2.2 c97) M (vW.rf M)
      · refine b_X12_comesOther [] ?_
        conv => whnf
        obtain ⟨u1, hu1, eu1⟩ := fNoTh_0 (n := n) (by have := h.n8; omega) (by rw [← h.2.1]; exact th_F c84)
        obtain ⟨u2, hu2, eu2⟩ := fNoTh_0 (n := n) (by have := h.n8; omega) (by rw [← h.2.1]; exact th_F c92)
        have ht1n : t1 < 8 := by have := (nI_eq (by omega) (by have := h.n8; omega)).mp eu1; have := h.n8; omega
        have ht2n : t2 < 8 := by have := (nI_eq (by omega) (by have := h.n8; omega)).mp eu2; have := h.n8; omega
        refine m_xc (m := M) (s := s) ht1n ht2n ?_
        refine b_X12_comesOther [] ?_
        conv => whnf
        refine ⟨(by first | exact Or.inl nI_0 | exact Or.inr nI_one | assumption), ?_⟩
        exact hT (chgR_z (fF0 (th_F c84) (th_F c92)) c97) (xcM M t1 t2) s ⟨rfl, rfl, rfl, rfl, rfl, rfl, rfl, rfl, rfl, rfl, rfl, rfl⟩ (h.1.xc ht1n ht2n)
theorem inn_dig {q : Nat} {f : Nat → Int32} : ∀ (k i : Nat), innF q f k i = none → ∀ j, j < k → i + j < q ∧ ∃ t, t ≤ 9 ∧ dg48 f (i + j) = nI t := by
  intro k
  induction k with
  | zero => intro i _ j hj; omega
  | succ k ih =>
    intro i h j hj
    rw [innF] at h
    by_cases c : q ≤ i
    · rw [if_pos c] at h; cases h
    · rw [if_neg c] at h
      by_cases d : isD (f i) = true
      · rw [if_pos d] at h
        by_cases e : j = 0
        · subst e
          refine ⟨by omega, ?_⟩
          rw [Nat.add_zero]
          unfold isD at d
          by_cases c1 : f i < nI 48
          · rw [if_pos c1] at d; cases d
          · rw [if_neg c1] at d
            by_cases c2 : nI 57 < f i
            · rw [if_pos c2] at d; cases d
            · obtain ⟨x, hx1, hx2, ex⟩ := btw_of (by decide) (by decide) (Int32.not_lt.mp c1) (Int32.not_lt.mp c2)
              refine ⟨x - 48, by omega, ?_⟩
              unfold dg48
              rw [ex, pk_sub hx1]
        · obtain ⟨a1, a2⟩ := ih (i + 1) h (j - 1) (by omega)
          rw [show i + 1 + (j - 1) = i + j by omega] at a1 a2
          exact ⟨a1, a2⟩
      · rw [if_neg d] at h; cases h
theorem dgt_48 {q i d : Nat} {f : Nat → Int32} (hq : q ≤ 96) (h : i + d < q) : dgt (nI q) f (nI i + nI d) = dg48 f (i + d) := by
  unfold dgt dg48
  rw [nI_add, if_neg (nI_ge h (by omega)), nI_clamp (by omega)]
/-- a statement that is told comes, or not -/
def stOk (q : Nat) (f : Nat → Int32) (st : Nat) : Prop := q ≤ 96 ∧ dgN (f st) ≠ 0 ∧ innF q f (dgN (f st)) (st + 1) = none
theorem join_iff {n : Nat} {k f b : Nat} (hn : n ≤ 8) (hf : f ≤ 9) (hb : b ≤ 9) (hk : k ≤ 9) : fJoinR (nI n) (nI k) (nI f) (nI b) = 0 ↔ k ≤ 5 ∧ n < 8 := by
  constructor
  · intro h
    refine ⟨?_, fJoinR_0 hn h⟩
    obtain ⟨⟨x, hx, e⟩, -⟩ := fJoinR_d hn h
    have := (nI_eq (by omega) (by omega)).mp e
    omega
  · intro h
    have a1 : fUnk (nI k) (nI 5) = 0 := by
      rw [fUnk_if, fIn_nI (by omega) (by decide) (by decide), decide_eq_true (show 0 ≤ k ∧ k ≤ 5 by omega)]; rfl
    have a2 : ∀ x, x < 2 ^ 31 → fBelow (nI x) (nI 0) = 0 := fun x hx => be_P (nI_le (by omega) hx)
    have a3 : ∀ x, x ≤ 9 → fAbove (nI x) (nI 9) = 0 := fun x hx => ab_P (nI_le hx (by decide))
    have a4 : fAbove (nI n + nI 1) (nI 8) = 0 := by rw [nI_add]; exact ab_P (nI_le (by omega) (by decide))
    exact fF0 (fF0 (fF0 a1 (fF0 (a2 f (by omega)) (a2 b (by omega)))) (fF0 (a3 f hf) (a3 b hb))) a4
theorem m_com {M : MS} {w : WS} {n : Nat} {A P : Nat → Nat} {s : S3} {q st c : Nat} {f : Nat → Int32} (h : mX M w n A P) (hd : ∃ d, d ≤ 999 ∧ w.1 3 = nI d) (hs : stOk q f st) (hc : 3 * c + 2 < 144) (h6 : M.2 6 c = f st) (hz : TZ f (f st) (st + 1) (3 * c) (M.2 8)) {K : Option Value → AH → Prop} (hT : (refF w (nI q) f st = 0 → ∀ (M2 : MS) (s2 : S3), vW M2 M → mR M2 (actF w n (nI q) f st) → K (some (.int (nI 1))) (mC M2 s2.1 s2.2.2))) (hF : (¬ refF w (nI q) f st = 0 → ∀ M2 : MS, vW M2 M → K (some (.int (nI 0))) (mC M2 s.1 s.2.2))) : am_M i_X12_comes [.ref 0, .int (nI c)] (mC M s.1 s.2.2) K := by
  obtain ⟨hq, hdg, hin⟩ := hs
  obtain ⟨z1, z116, z100, z120⟩ := hz
  have hdig := inn_dig _ _ hin
  have hpl := (wOk_std h.2).2.2.2
  obtain ⟨g1, t1, ht1, et1⟩ := hdig 0 (by omega)
  rw [Nat.add_zero] at g1 et1
  have d1 : dgt (nI q) f (nI st + nI 1) = nI t1 := by rw [dgt_48 hq g1, et1]
  rw [et1] at z1
  have e3 : nI 3 * nI c = nI (3 * c) := nI_mulN 3 c
  have hb : f st = nI 99 ∨ f st = nI 109 ∨ f st = nI 100 ∨ f st = nI 116 ∨ f st = nI 120 := by
    unfold dgN at hdg
    by_cases c1 : f st = nI 99
    · exact Or.inl c1
    · rw [if_neg c1] at hdg
      by_cases c2 : f st = nI 100
      · exact Or.inr (Or.inr (Or.inl c2))
      · rw [if_neg c2] at hdg
        by_cases c3 : f st = nI 109
        · exact Or.inr (Or.inl c3)
        · rw [if_neg c3] at hdg
          by_cases c4 : f st = nI 116
          · exact Or.inr (Or.inr (Or.inr (Or.inl c4)))
          · rw [if_neg c4] at hdg
            by_cases c5 : f st = nI 120
            · exact Or.inr (Or.inr (Or.inr (Or.inr c5)))
            · rw [if_neg c5] at hdg; exact absurd rfl hdg
  unfold refF at hT hF
  unfold actF at hT
  rcases hb with hb | hb | hb | hb | hb
  · rw [if_pos hb, if_pos hb] at hT
    rw [if_pos hb] at hF
    rw [d1] at hT hF
    refine e_X12_comes [] ?_
    conv => whnf
    refine ⟨(by rw [e3]; exact vp_in_nI (show 3 * c < 144 by omega) (by decide)), ?_⟩
    rw [e3, nI_clamp (show 3 * c < 2 ^ 31 by omega), z1]
    conv => whnf
    refine ⟨(by rw [e3, nI_add]; exact vp_in_nI (show 3 * c + 1 < 144 by omega) (by decide)), ?_⟩
    rw [e3, nI_add, nI_clamp (show 3 * c + 1 < 2 ^ 31 by omega)]
    conv => whnf
    refine ⟨(vp_in_nI (show c < 48 by omega) (by decide)), ?_⟩
    rw [nI_clamp (show c < 2 ^ 31 by omega), h6, hb]
    conv => whnf
    refine ⟨fun c28 => absurd c28 (by decide), fun c28 => ?_⟩
    refine b_X12_comes [] ?_
    conv => whnf
    refine ⟨(vp_in_nI (show c < 48 by omega) (by decide)), ?_⟩
    rw [nI_clamp (show c < 2 ^ 31 by omega), h6, hb]
    conv => whnf
    refine ⟨fun c46 => absurd c46 (by decide), fun c46 => ?_⟩
    conv => whnf
    refine ⟨(vp_in_nI (show c < 48 by omega) (by decide)), ?_⟩
    rw [nI_clamp (show c < 2 ^ 31 by omega), h6, hb]
    conv => whnf
    refine m_co99 h ht1 (fun y M2 s2 v2 m2 => ?_) (fun y M2 v2 => ?_)
    rotate_left
    · have h9 := hF y M2 v2
      refine b_X12_comes [] ?_
      conv => whnf
      refine ⟨(Or.inl nI_0), ?_⟩
      exact h9
    have h9 := hT y M2 s2 v2 m2
    refine b_X12_comes [] ?_
    conv => whnf
    refine ⟨(Or.inr nI_one), ?_⟩
    exact h9
  · rw [if_neg (show ¬ f st = nI 99 by rw [hb]; decide), if_neg (show ¬ f st = nI 100 by rw [hb]; decide), if_pos hb, if_neg (show ¬ f st = nI 99 by rw [hb]; decide), if_neg (show ¬ f st = nI 100 by rw [hb]; decide), if_pos hb] at hT
    rw [if_neg (show ¬ f st = nI 99 by rw [hb]; decide), if_neg (show ¬ f st = nI 100 by rw [hb]; decide), if_pos hb] at hF
    rw [d1] at hT hF
    refine e_X12_comes [] ?_
    conv => whnf
    refine ⟨(by rw [e3]; exact vp_in_nI (show 3 * c < 144 by omega) (by decide)), ?_⟩
    rw [e3, nI_clamp (show 3 * c < 2 ^ 31 by omega), z1]
    conv => whnf
    refine ⟨(by rw [e3, nI_add]; exact vp_in_nI (show 3 * c + 1 < 144 by omega) (by decide)), ?_⟩
    rw [e3, nI_add, nI_clamp (show 3 * c + 1 < 2 ^ 31 by omega)]
    conv => whnf
    refine ⟨(vp_in_nI (show c < 48 by omega) (by decide)), ?_⟩
    rw [nI_clamp (show c < 2 ^ 31 by omega), h6, hb]
    conv => whnf
    refine ⟨fun c28 => absurd c28 (by decide), fun c28 => ?_⟩
    refine b_X12_comes [] ?_
    conv => whnf
    refine ⟨(vp_in_nI (show c < 48 by omega) (by decide)), ?_⟩
    rw [nI_clamp (show c < 2 ^ 31 by omega), h6, hb]
    conv => whnf
    refine ⟨fun c46 => absurd c46 (by decide), fun c46 => ?_⟩
    conv => whnf
    refine ⟨(vp_in_nI (show c < 48 by omega) (by decide)), ?_⟩
    rw [nI_clamp (show c < 2 ^ 31 by omega), h6, hb]
    conv => whnf
    refine m_co109 h ht1 (fun y M2 s2 v2 m2 => ?_) (fun y M2 v2 => ?_)
    rotate_left
    · have h9 := hF y M2 v2
      refine b_X12_comes [] ?_
      conv => whnf
      refine ⟨(Or.inl nI_0), ?_⟩
      exact h9
    have h9 := hT y M2 s2 v2 m2
    refine b_X12_comes [] ?_
    conv => whnf
    refine ⟨(Or.inr nI_one), ?_⟩
    exact h9
  · rw [if_neg (show ¬ f st = nI 99 by rw [hb]; decide), if_pos hb, if_neg (show ¬ f st = nI 99 by rw [hb]; decide), if_pos hb] at hT
    rw [if_neg (show ¬ f st = nI 99 by rw [hb]; decide), if_pos hb] at hF
    obtain ⟨g2, t2, ht2, et2⟩ := hdig 1 (by rw [hb]; decide)
    have d2 : dgt (nI q) f (nI st + nI 2) = nI t2 := by rw [dgt_48 hq (by omega), ← et2]
    obtain ⟨g3, t3, ht3, et3⟩ := hdig 2 (by rw [hb]; decide)
    have d3 : dgt (nI q) f (nI st + nI 3) = nI t3 := by rw [dgt_48 hq (by omega), ← et3]
    rw [d1] at hT hF
    have hbl : blI (nI q) f (nI st) = M.2 8 (3 * c + 1) := by
      rw [z100 hb]
      unfold blI
      rw [dgt_48 hq (show st + 2 < q by omega), dgt_48 hq (show st + 3 < q by omega)]
    rw [hbl] at hT hF
    refine e_X12_comes [] ?_
    conv => whnf
    refine ⟨(by rw [e3]; exact vp_in_nI (show 3 * c < 144 by omega) (by decide)), ?_⟩
    rw [e3, nI_clamp (show 3 * c < 2 ^ 31 by omega), z1]
    conv => whnf
    refine ⟨(by rw [e3, nI_add]; exact vp_in_nI (show 3 * c + 1 < 144 by omega) (by decide)), ?_⟩
    rw [e3, nI_add, nI_clamp (show 3 * c + 1 < 2 ^ 31 by omega)]
    conv => whnf
    refine ⟨(vp_in_nI (show c < 48 by omega) (by decide)), ?_⟩
    rw [nI_clamp (show c < 2 ^ 31 by omega), h6, hb]
    conv => whnf
    refine ⟨fun c28 => ?_, fun c28 => absurd rfl c28⟩
    conv => whnf
    refine m_cdr h hd ht1 (fun y M2 s2 v2 m2 => ?_) (fun y => ?_)
    rotate_left
    · have h9 := hF y M (vW.rf M)
      refine b_X12_comes [] ?_
      conv => whnf
      refine ⟨(Or.inl nI_0), ?_⟩
      exact h9
    have h9 := hT y M2 s2 v2 (by
      obtain ⟨hx1, -⟩ := fDropR_all y
      obtain ⟨u, hu, eu⟩ := fNoTh_0 (n := n) (by have := h.n8; omega) (by rw [← h.2.1]; exact hx1)
      have : t1 < n := by have := (nI_eq (by omega) (by have := h.n8; omega)).mp eu; omega
      rw [nI_clamp (show t1 < 2 ^ 31 by omega), hpl t1 this]
      exact m2)
    refine b_X12_comes [] ?_
    conv => whnf
    refine ⟨(Or.inr nI_one), ?_⟩
    exact h9
  · rw [if_neg (show ¬ f st = nI 99 by rw [hb]; decide), if_neg (show ¬ f st = nI 100 by rw [hb]; decide), if_neg (show ¬ f st = nI 109 by rw [hb]; decide), if_pos hb, if_neg (show ¬ f st = nI 99 by rw [hb]; decide), if_neg (show ¬ f st = nI 100 by rw [hb]; decide), if_neg (show ¬ f st = nI 109 by rw [hb]; decide), if_pos hb] at hT
    rw [if_neg (show ¬ f st = nI 99 by rw [hb]; decide), if_neg (show ¬ f st = nI 100 by rw [hb]; decide), if_neg (show ¬ f st = nI 109 by rw [hb]; decide), if_pos hb] at hF
    obtain ⟨g2, t2, ht2, et2⟩ := hdig 1 (by rw [hb]; decide)
    have d2 : dgt (nI q) f (nI st + nI 2) = nI t2 := by rw [dgt_48 hq (by omega), ← et2]
    obtain ⟨g3, t3, ht3, et3⟩ := hdig 2 (by rw [hb]; decide)
    have d3 : dgt (nI q) f (nI st + nI 3) = nI t3 := by rw [dgt_48 hq (by omega), ← et3]
    obtain ⟨zz1, zz2⟩ := z116 hb
    rw [et2] at zz1
    rw [et3] at zz2
    rw [d1, d2, d3, h.2.1, join_iff h.n8 ht2 ht3 ht1] at hT
    rw [d1, d2, d3, h.2.1, join_iff h.n8 ht2 ht3 ht1] at hF
    refine e_X12_comes [] ?_
    conv => whnf
    refine ⟨(by rw [e3]; exact vp_in_nI (show 3 * c < 144 by omega) (by decide)), ?_⟩
    rw [e3, nI_clamp (show 3 * c < 2 ^ 31 by omega), z1]
    conv => whnf
    refine ⟨(by rw [e3, nI_add]; exact vp_in_nI (show 3 * c + 1 < 144 by omega) (by decide)), ?_⟩
    rw [e3, nI_add, nI_clamp (show 3 * c + 1 < 2 ^ 31 by omega)]
    conv => whnf
    refine ⟨(vp_in_nI (show c < 48 by omega) (by decide)), ?_⟩
    rw [nI_clamp (show c < 2 ^ 31 by omega), h6, hb]
    conv => whnf
    refine ⟨fun c28 => absurd c28 (by decide), fun c28 => ?_⟩
    refine b_X12_comes [] ?_
    conv => whnf
    refine ⟨(vp_in_nI (show c < 48 by omega) (by decide)), ?_⟩
    rw [nI_clamp (show c < 2 ^ 31 by omega), h6, hb]
    conv => whnf
    refine ⟨fun c46 => ?_, fun c46 => absurd rfl c46⟩
    refine b_X12_comes [] ?_
    conv => whnf
    refine ⟨fun c64 => ?_, fun c64 => ?_⟩
    · refine b_X12_comes [] ?_
      conv => whnf
      refine ⟨(by first | exact Or.inl nI_0 | exact Or.inr nI_one | assumption), ?_⟩
      exact hF (fun z => absurd z.1 (by have := (nI_ltI (by omega) (by omega)).mp c64; omega)) M (vW.rf M)
    · conv => whnf
      refine ⟨fun c73 => ?_, fun c73 => ?_⟩
      · conv => whnf
        refine ⟨(by first | exact Or.inl nI_0 | exact Or.inr nI_one | assumption), ?_⟩
        exact hF (fun z => absurd z.2 (by rw [h.n] at c73; have := (nI_eq (by have := h.n8; omega) (by decide)).mp c73; omega)) M (vW.rf M)
      · refine b_X12_comes [] ?_
        conv => whnf
        have hk5 : t1 ≤ 5 := by
          have : ¬ 5 < t1 := fun z => c64 (nI_lt z (by omega))
          omega
        have hn8 : n < 8 := by
          have h8 := h.n8
          have : n ≠ 8 := fun z => c73 (by rw [h.n, z])
          omega
        refine ⟨(by rw [e3, nI_add]; exact vp_in_nI (show 3 * c + 2 < 144 by omega) (by decide)), ?_⟩
        rw [e3, nI_add, nI_clamp (show 3 * c + 2 < 2 ^ 31 by omega), zz1, zz2]
        conv => whnf
        refine m_adds (m := M) (s := s) h.n hn8 ?_
        refine b_X12_comes [] ?_
        conv => whnf
        refine ⟨(by first | exact Or.inl nI_0 | exact Or.inr nI_one | assumption), ?_⟩
        exact hT ⟨hk5, hn8⟩ (adM M n (nI t1) (nI t2) (nI t3)) s ⟨rfl, rfl, rfl, rfl, rfl, rfl, rfl, rfl, rfl, rfl, rfl, rfl⟩ (h.1.ad hn8)
  · rw [if_neg (show ¬ f st = nI 99 by rw [hb]; decide), if_neg (show ¬ f st = nI 100 by rw [hb]; decide), if_neg (show ¬ f st = nI 109 by rw [hb]; decide), if_neg (show ¬ f st = nI 116 by rw [hb]; decide), if_neg (show ¬ f st = nI 99 by rw [hb]; decide), if_neg (show ¬ f st = nI 100 by rw [hb]; decide), if_neg (show ¬ f st = nI 109 by rw [hb]; decide), if_neg (show ¬ f st = nI 116 by rw [hb]; decide)] at hT
    rw [if_neg (show ¬ f st = nI 99 by rw [hb]; decide), if_neg (show ¬ f st = nI 100 by rw [hb]; decide), if_neg (show ¬ f st = nI 109 by rw [hb]; decide), if_neg (show ¬ f st = nI 116 by rw [hb]; decide)] at hF
    obtain ⟨g2, t2, ht2, et2⟩ := hdig 1 (by rw [hb]; decide)
    have d2 : dgt (nI q) f (nI st + nI 2) = nI t2 := by rw [dgt_48 hq (by omega), ← et2]
    have zz1 := z120 hb
    rw [et2] at zz1
    rw [d1, d2, nI_clamp (show t1 < 2 ^ 31 by omega), nI_clamp (show t2 < 2 ^ 31 by omega)] at hT
    rw [d1, d2] at hF
    refine e_X12_comes [] ?_
    conv => whnf
    refine ⟨(by rw [e3]; exact vp_in_nI (show 3 * c < 144 by omega) (by decide)), ?_⟩
    rw [e3, nI_clamp (show 3 * c < 2 ^ 31 by omega), z1]
    conv => whnf
    refine ⟨(by rw [e3, nI_add]; exact vp_in_nI (show 3 * c + 1 < 144 by omega) (by decide)), ?_⟩
    rw [e3, nI_add, nI_clamp (show 3 * c + 1 < 2 ^ 31 by omega), zz1]
    conv => whnf
    refine ⟨(vp_in_nI (show c < 48 by omega) (by decide)), ?_⟩
    rw [nI_clamp (show c < 2 ^ 31 by omega), h6, hb]
    conv => whnf
    refine ⟨fun c28 => absurd c28 (by decide), fun c28 => ?_⟩
    refine b_X12_comes [] ?_
    conv => whnf
    refine ⟨(vp_in_nI (show c < 48 by omega) (by decide)), ?_⟩
    rw [nI_clamp (show c < 2 ^ 31 by omega), h6, hb]
    conv => whnf
    refine ⟨fun c46 => absurd c46 (by decide), fun c46 => ?_⟩
    conv => whnf
    refine ⟨(vp_in_nI (show c < 48 by omega) (by decide)), ?_⟩
    rw [nI_clamp (show c < 2 ^ 31 by omega), h6, hb]
    conv => whnf
    refine m_co120 (y := nI 0) ht2 h ht1 (fun y M2 s2 v2 m2 => ?_) (fun y M2 v2 => ?_)
    rotate_left
    · have h9 := hF y M2 v2
      refine b_X12_comes [] ?_
      conv => whnf
      refine ⟨(Or.inl nI_0), ?_⟩
      exact h9
    have h9 := hT y M2 s2 v2 m2
    refine b_X12_comes [] ?_
    conv => whnf
    refine ⟨(Or.inr nI_one), ?_⟩
    exact h9
