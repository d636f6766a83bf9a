/-! SPECS of the model: best figure, longest, spared, apart, heaps, mutual, hum, twins -/
def figR (i : Nat) (b : Int32 × Int32) (x f : Int32) : Prop := (i = 0 ∧ b = nob ∧ x = nI 0 ∧ f = Int32.ofInt (-9)) ∨ ∃ t q, t < 100 ∧ q ≤ 8 ∧ b = (nI t, nI q) ∧ x = nI t ∧ f = nI q
theorem n9lt {q : Nat} (h : q ≤ 8) : Int32.ofInt (-9) < nI q := by
  have : ∀ q, q < 9 → Int32.ofInt (-9) < nI q := by decide +kernel
  exact this q (by omega)
theorem fig_t {i : Nat} {b : Int32 × Int32} {x f : Int32} {q : Nat} (h : figR i b x f) (hq : q ≤ 8) (c : f < nI q) : fMost b (nI i) (nI q) = (nI i, nI q) := by
  unfold fMost
  rcases h with ⟨-, rfl, -, -⟩ | ⟨t, q2, h1, h2, rfl, -, rfl⟩
  · exact if_pos rfl
  · rw [if_neg (nI_n9 (by omega)), if_neg (Int32.not_le.mpr c)]
theorem fig_f {i : Nat} {b : Int32 × Int32} {x f : Int32} {q : Nat} (h : figR i b x f) (hq : q ≤ 8) (c : ¬ f < nI q) : fMost b (nI i) (nI q) = b ∧ ∃ t q, t < 100 ∧ q ≤ 8 ∧ b = (nI t, nI q) ∧ x = nI t ∧ f = nI q := by
  rcases h with ⟨-, rfl, -, rfl⟩ | ⟨t, q2, h1, h2, rfl, h4, rfl⟩
  · exact absurd (n9lt hq) c
  · exact ⟨by unfold fMost; rw [if_neg (nI_n9 (by omega)), if_pos (Int32.not_lt.mp c)], t, q2, h1, h2, rfl, h4, rfl⟩
theorem ml_fig {m : MS} {w : WS} {n : Nat} {A P : Nat → Nat} {t x : Nat} {v ov z4 : Int32} (ht : t < n) (hx : x < 8) (hv : ¬ v ≤ 0) (hov : ov = m.2 2 x) {K : Option Value → AH → Prop} (h : mX m w n A P) : ∀ (k i : Nat) (s : S3) (g : Nat → Int32) (b : Int32 × Int32) (y f : Int32) (hg : ∀ j, j ≠ x → g j = m.2 2 j) (hb : figR i b y f), i + k = 10 → (∀ (s2 : S3) (g2 : Nat → Int32), (∀ j, g2 j = m.2 2 j) → K (some (.int (itr (fhmI w n (P t) x v) k i b).1)) (mC (setA m 2 g2) s2.1 s2.2.2)) → am_E i_X12_bestFigure 49 [some (.ref 0), some (.int (nI x)), some (.int (nI t)), some (.int v), some (.int z4), some (.int ov), some (.int y), some (.int f), some (.int (nI i)), none] [] (mC (setA m 2 g) s.1 s.2.2) K := by
  intro k
  induction k with
  | zero =>
    intro i s g b y f hg hb hi hK
    obtain rfl : i = 10 := by omega
    refine b_X12_bestFigure [49] ?_
    conv => whnf
    refine ⟨fun c53 => ?_, fun c53 => absurd (by decide) c53⟩
    refine b_X12_bestFigure [49] ?_
    conv => whnf
    refine ⟨(vp_in_nI hx (by decide)), ?_⟩
    rw [nI_clamp (show x < 2 ^ 31 by omega)]
    conv => whnf
    rcases hb with ⟨h1, -⟩ | ⟨t2, q2, a1, a2, rfl, rfl, rfl⟩
    · exact absurd h1 (by decide)
    · exact hK s (upd g x ov) (fun j => by
        by_cases y : j = x
        · rw [y]; exact (if_pos rfl).trans hov
        · exact (if_neg y).trans (hg j y))
  | succ k ih =>
    intro i s g b y f hg hb hi hK
    refine b_X12_bestFigure [49] ?_
    conv => whnf
    refine ⟨fun c53 => absurd c53 (nI_ge (by omega) (by omega)), fun c53 => ?_⟩
    conv => whnf
    refine ⟨(vp_in_nI hx (by decide)), ?_⟩
    rw [nI_clamp (show x < 2 ^ 31 by omega)]
    conv => whnf
    have h3 : mX (setA m 2 (upd g x (nI i))) (wK w 1 x (nI i)) n A P := h.K (by decide) hg
    refine m_mby (m := (setA m 2 (upd g x (nI i)))) (s := s) h3 ht hv (fun s2 q hq eq => ?_)
    have e1 : fhmI w n (P t) x v i b = fMost b (nI i) (nI q) := by rw [← eq]; rfl
    simp only [itr, e1] at hK
    refine b_X12_bestFigure [49] ?_
    conv => whnf
    refine ⟨fun c76 => ?_, fun c76 => ?_⟩
    · refine b_X12_bestFigure [49] ?_
      conv => whnf
      rw [fig_t hb hq c76] at hK
      have h2 := ih (i + 1) s2 (upd g x (nI i)) (nI i, nI q) (nI i) (nI q) (fun j hj => (if_neg hj).trans (hg j hj)) (Or.inr ⟨i, q, by omega, hq, rfl, rfl, rfl⟩) (by omega) hK
      rw [← nI_add i 1] at h2
      exact am_wk (by exact ⟨Or.inr rfl, Or.inr rfl, Or.inr rfl, Or.inr rfl, Or.inr rfl, Or.inr rfl, Or.inr rfl, Or.inr rfl, Or.inr rfl, Or.inl rfl, trivial⟩) h2
    · conv => whnf
      refine b_X12_bestFigure [49] ?_
      conv => whnf
      obtain ⟨e2, e3⟩ := fig_f hb hq c76
      rw [e2] at hK
      have h2 := ih (i + 1) s2 (upd g x (nI i)) b (y) (f) (fun j hj => (if_neg hj).trans (hg j hj)) (Or.inr e3) (by omega) hK
      rw [← nI_add i 1] at h2
      exact am_wk (by exact ⟨Or.inr rfl, Or.inr rfl, Or.inr rfl, Or.inr rfl, Or.inr rfl, Or.inr rfl, Or.inr rfl, Or.inr rfl, Or.inr rfl, Or.inl rfl, trivial⟩) h2
theorem m_bestFigure {a : Ab} {m : MS} {s : S3} {x y v : Int32} (hI : Inv a) (hM : MR a m)  {K : Option Value → AH → Prop} (hK : ∀ m2 (s2 : S3), MR (qB a (fFirst (fFirst (fNoTh ((a.1 0).1 0) x) (fNoTh ((a.1 0).1 0) y)) (fNoBlow v))) m2 → K (some (.int (qA (fFirst (fFirst (fNoTh ((a.1 0).1 0) x) (fNoTh ((a.1 0).1 0) y)) (fNoBlow v)) ((itr (fhmI (a.1 0) (nO (a.1 0)) ((plW (a.1 0)) y.toNatClampNeg) x.toNatClampNeg v) 10 0 nob).1)))) (mC m2 s2.1 s2.2.2)) : am_M i_X12_bestFigure [.ref 0, .int x, .int y, .int v] (mC m s.1 s.2.2) K := by
  have h := hM.x hI
  have hn := hI.n
  have hn8 := hI.n8
  refine e_X12_bestFigure [49] ?_
  conv => whnf
  refine m_n2 hM ?_
  refine b_X12_bestFigure [49] ?_
  conv => whnf
  refine ⟨fun c10 => ?_, fun c10 => ?_⟩
  · conv => whnf
    refine m_nb ?_
    refine b_X12_bestFigure [49] ?_
    conv => whnf
    refine ⟨fun c21 => ?_, fun c21 => ?_⟩
    · refine b_X12_bestFigure [49] ?_
      conv => whnf
      have r0 : (fFirst (fFirst (fNoTh ((a.1 0).1 0) x) (fNoTh ((a.1 0).1 0) y)) (fNoBlow v)) = 0 := (fF0 c10 c21)
      rw [qA_0 r0, qB_0 r0] at hK
      obtain ⟨r1a, r1b⟩ := fFirst_0 r0
      obtain ⟨r2a, r2b⟩ := fFirst_0 r1a
      obtain ⟨x_, hx, rfl⟩ := fNoTh_0 (n := nO (a.1 0)) (by omega) (by rw [← hn]; exact r2a)
      have ex : (nI x_).toNatClampNeg = x_ := nI_clamp (by omega)
      try rw [ex] at hK
      obtain ⟨y_, hy, rfl⟩ := fNoTh_0 (n := nO (a.1 0)) (by omega) (by rw [← hn]; exact r2b)
      have ey : (nI y_).toNatClampNeg = y_ := nI_clamp (by omega)
      try rw [ey] at hK
      obtain ⟨v_, hv1, hv2, rfl⟩ := fNoBlow_0 r1b
      have hv0 : ¬ nI v_ ≤ 0 := v_b hv1 (by omega)
      refine ⟨(vp_in_nI (show x_ < 8 by omega) (by decide)), ?_⟩
      conv => whnf
      rw [ex]
      exact am_wk (by exact ⟨Or.inr rfl, Or.inr rfl, Or.inr rfl, Or.inr rfl, Or.inr rfl, Or.inr rfl, Or.inr rfl, Or.inr rfl, Or.inr rfl, Or.inl rfl, trivial⟩) (ml_fig (z4 := fNoBlow (nI v_)) hy (by omega) hv0 rfl h 10 0 s (m.2 2) nob (nI 0) (Int32.ofInt (-9)) (fun _ _ => rfl) (Or.inl ⟨rfl, rfl, rfl, rfl⟩) rfl (fun s2 g2 hg2 => hK _ s2 (hM.setA (by decide) (by decide) (fun j _ => hg2 j))))
    · conv => whnf
      refine m_no (x := (fNoBlow v)) (by first | (unfold rfs; decide) | exact fNoBlow_r (by assumption) | exact fFirst_r fNoTh_r fNoTh_r (by assumption)) ?_
      refine b_X12_bestFigure [49] ?_
      conv => whnf
      have e0 : (fFirst (fFirst (fNoTh ((a.1 0).1 0) x) (fNoTh ((a.1 0).1 0) y)) (fNoBlow v)) = (fNoBlow v) := (fF0 c10 rfl)
      rw [e0, qA_n (rfs_n (by first | (unfold rfs; decide) | exact fNoBlow_r (by assumption) | exact fFirst_r fNoTh_r fNoTh_r (by assumption)))] at hK
      exact hK _ s (hM.bump (by first | (unfold rfs; decide) | exact fNoBlow_r (by assumption) | exact fFirst_r fNoTh_r fNoTh_r (by assumption)))
  · refine b_X12_bestFigure [49] ?_
    conv => whnf
    refine ⟨fun c21 => absurd c21 c10, fun c21 => ?_⟩
    conv => whnf
    refine m_no (x := (fFirst (fNoTh ((a.1 0).1 0) x) (fNoTh ((a.1 0).1 0) y))) (by first | (unfold rfs; decide) | exact fNoBlow_r (by assumption) | exact fFirst_r fNoTh_r fNoTh_r (by assumption)) ?_
    refine b_X12_bestFigure [49] ?_
    conv => whnf
    have e0 : (fFirst (fFirst (fNoTh ((a.1 0).1 0) x) (fNoTh ((a.1 0).1 0) y)) (fNoBlow v)) = (fFirst (fNoTh ((a.1 0).1 0) x) (fNoTh ((a.1 0).1 0) y)) := (fFn rfl (rfs_n (by first | (unfold rfs; decide) | exact fNoBlow_r (by assumption) | exact fFirst_r fNoTh_r fNoTh_r (by assumption))))
    rw [e0, qA_n (rfs_n (by first | (unfold rfs; decide) | exact fNoBlow_r (by assumption) | exact fFirst_r fNoTh_r fNoTh_r (by assumption)))] at hK
    exact hK _ s (hM.bump (by first | (unfold rfs; decide) | exact fNoBlow_r (by assumption) | exact fFirst_r fNoTh_r fNoTh_r (by assumption)))
theorem far9 {f g : Nat} (hf : f ≤ 9) (hg : g ≤ 9) : fFar (nI f) (nI g) = absI (nI g - nI f) := by
  have : ∀ f, f < 10 → ∀ g, g < 10 → fFar (nI f) (nI g) = absI (nI g - nI f) := by decide +kernel
  exact this f (by omega) g (by omega)
def wFm (w : WS) (n : Nat) : Prop := ∀ t, t < n → ∃ f, f ≤ 9 ∧ w.2 2 t = nI f
def lonR (w : WS) (n : Nat) (b : Int32 × Int32) : Prop := b = nob ∨ ∃ j, j + 1 < n ∧ b = (nI j, fWay w j)
theorem m_lk {m : MS} {w : WS} {n : Nat} {A P : Nat → Nat} {s : S3} {i : Nat} (h : mX m w n A P) (hf : wFm w n) (hi : i + 1 < n) {K : Option Value → AH → Prop} (hK : K (some (.int (fWay w i))) (mC m s.1 s.2.2)) : am_M i_X12_linkOf [.ref 0, .int (nI i)] (mC m s.1 s.2.2) K := by
  have hn8 := h.n8
  have h1 := h.wA (show i < n by omega)
  have h2 := h.wA hi
  have e : (nI i).toNatClampNeg = i := nI_clamp (by omega)
  have ee : (nI i + nI 1).toNatClampNeg = i + 1 := by rw [nI_add]; exact nI_clamp (by omega)
  obtain ⟨f, hf1, hf2⟩ := hf (A i) h1.2.1
  obtain ⟨g, hg1, hg2⟩ := hf (A (i + 1)) h2.2.1
  have w1 : (w.2 3 i).toNatClampNeg = A i := by rw [← h.w (show i < 8 by omega), h1.1]; exact nI_clamp (by omega)
  have w2 : (w.2 3 (i + 1)).toNatClampNeg = A (i + 1) := by rw [← h.w (show i + 1 < 8 by omega), h2.1]; exact nI_clamp (by omega)
  unfold fWay at hK
  rw [w1, w2, hf2, hg2, ← far9 hf1 hg1] at hK
  refine e_X12_linkOf [] ?_
  conv => whnf
  refine ⟨(vp_in_nI (by omega) (by decide)), ?_⟩
  rw [e, h1.1]
  conv => whnf
  refine ⟨(vp_in_nI (by omega) (by decide)), ?_⟩
  rw [nI_clamp (show A i < 2 ^ 31 by omega), h.a (by omega), hf2]
  conv => whnf
  refine ⟨(by rw [nI_add]; exact vp_in_nI (by omega) (by decide)), ?_⟩
  rw [ee, h2.1]
  conv => whnf
  refine ⟨(vp_in_nI (by omega) (by decide)), ?_⟩
  rw [nI_clamp (show A (i + 1) < 2 ^ 31 by omega), h.a (by omega), hg2]
  conv => whnf
  refine m_far ?_
  refine b_X12_linkOf [] ?_
  conv => whnf
  exact hK
theorem ml_lon {m : MS} {w : WS} {n : Nat} {A P : Nat → Nat} {c : Int32} (hf : wFm w n) {K : Option Value → AH → Prop} (h : mX m w n A P) : ∀ (k i : Nat) (s : S3) (b : Int32 × Int32) (hb : lonR w n b), i + k = n - 1 → (K (some (.int (if c = 0 then (itr (lonI w) k i b).1 else (itr (lonI w) k i b).2))) (mC m s.1 s.2.2)) → am_E i_X12_longest 21 [some (.ref 0), some (.int c), some (.int b.1), some (.int (nI i))] [] (mC m s.1 s.2.2) K := by
  intro k
  induction k with
  | zero =>
    intro i s b hb hi hK
    obtain rfl : i = n - 1 := by omega
    refine b_X12_longest [21] ?_
    conv => whnf
    refine ⟨fun c28 => ?_, fun c28 => absurd (lkT2 h (Nat.le_refl _) (by have := h.n8; omega)) c28⟩
    refine b_X12_longest [21] ?_
    conv => whnf
    refine ⟨fun c61 => ?_, fun c61 => ?_⟩
    · refine b_X12_longest [21] ?_
      conv => whnf
      refine b_X12_longest [21] ?_
      conv => whnf
      rw [if_pos c61] at hK
      exact hK
    · conv => whnf
      refine ⟨fun c65 => ?_, fun c65 => ?_⟩
      · refine b_X12_longest [21] ?_
        conv => whnf
        rw [if_neg c61] at hK
        rcases hb with rfl | ⟨j, hj, rfl⟩
        · exact absurd c65 (by decide)
        refine m_lk (s := s) h hf hj ?_
        refine b_X12_longest [21] ?_
        conv => whnf
        exact hK
      · conv => whnf
        refine b_X12_longest [21] ?_
        conv => whnf
        rw [if_neg c61] at hK
        rcases hb with rfl | ⟨j, hj, rfl⟩
        · exact hK
        · exact absurd (nI_pos' (by have := h.n8; omega)) c65
  | succ k ih =>
    intro i s b hb hi hK
    have hn8 := h.n8
    refine b_X12_longest [21] ?_
    conv => whnf
    refine ⟨fun c28 => absurd c28 (lkF2 h (by omega)), fun c28 => ?_⟩
    conv => whnf
    refine ⟨fun c32 => ?_, fun c32 => ?_⟩
    · refine b_X12_longest [21] ?_
      conv => whnf
      refine b_X12_longest [21] ?_
      conv => whnf
      rcases hb with rfl | ⟨j, hj, rfl⟩
      · have e1 : lonI w i nob = (nI i, fWay w i) := (show fMost nob (nI i) (fWay w i) = _ from if_pos rfl)
        simp only [itr, e1] at hK
        have h2 := ih (i + 1) s (nI i, fWay w i) (Or.inr ⟨i, by omega, rfl⟩) (by omega) hK
        rw [← nI_add i 1] at h2
        exact h2
      · exact absurd c32 (nI_pos (by have := h.n8; omega))
    · conv => whnf
      rcases hb with rfl | ⟨j, hj, rfl⟩
      · exact absurd (by decide) c32
      refine m_lk (s := s) h hf (by omega) ?_
      refine b_X12_longest [21] ?_
      conv => whnf
      refine m_lk (s := s) h hf hj ?_
      refine b_X12_longest [21] ?_
      conv => whnf
      refine ⟨fun c45 => ?_, fun c45 => ?_⟩
      · refine b_X12_longest [21] ?_
        conv => whnf
        have e1 : lonI w i (nI j, fWay w j) = (nI j, fWay w j) := (if_neg (nI_n9 (by have := h.n8; omega))).trans (if_pos c45)
        simp only [itr, e1] at hK
        have h2 := ih (i + 1) s (nI j, fWay w j) (Or.inr ⟨j, hj, rfl⟩) (by omega) hK
        rw [← nI_add i 1] at h2
        exact h2
      · conv => whnf
        refine b_X12_longest [21] ?_
        conv => whnf
        have e1 : lonI w i (nI j, fWay w j) = (nI i, fWay w i) := (if_neg (nI_n9 (by have := h.n8; omega))).trans (if_neg c45)
        simp only [itr, e1] at hK
        have h2 := ih (i + 1) s (nI i, fWay w i) (Or.inr ⟨i, by omega, rfl⟩) (by omega) hK
        rw [← nI_add i 1] at h2
        exact h2
theorem Inv.fm {a : Ab} (h : Inv a) : wFm (a.1 0) (nO (a.1 0)) := fun t ht => (h.1.2.1 t ht).2.2
theorem m_longest {a : Ab} {m : MS} {s : S3} {c : Int32} (hI : Inv a) (hM : MR a m)  {K : Option Value → AH → Prop} (hK : ∀ m2 (s2 : S3), MR (qB a (fUnk c (nI 1))) m2 → K (some (.int (qA (fUnk c (nI 1)) (if c = 0 then (itr (lonI (a.1 0)) ((nO (a.1 0)) - 1) 0 nob).1 else (itr (lonI (a.1 0)) ((nO (a.1 0)) - 1) 0 nob).2)))) (mC m2 s2.1 s2.2.2)) : am_M i_X12_longest [.ref 0, .int c] (mC m s.1 s.2.2) K := by
  have h := hM.x hI
  have hn := hI.n
  have hn8 := hI.n8
  refine e_X12_longest [21] ?_
  conv => whnf
  refine m_isIn ?_
  refine b_X12_longest [21] ?_
  conv => whnf
  refine ⟨fun c6 => ?_, fun c6 => ?_⟩
  · conv => whnf
    refine m_no (x := (Int32.ofInt (-2))) (by first | (unfold rfs; decide) | exact fNoBlow_r (by assumption) | exact fFirst_r fNoTh_r fNoTh_r (by assumption)) ?_
    refine b_X12_longest [21] ?_
    conv => whnf
    have e0 : (fUnk c (nI 1)) = (Int32.ofInt (-2)) := (in_T c6)
    rw [e0, qA_n (rfs_n (by first | (unfold rfs; decide) | exact fNoBlow_r (by assumption) | exact fFirst_r fNoTh_r fNoTh_r (by assumption)))] at hK
    exact hK _ s (hM.bump (by first | (unfold rfs; decide) | exact fNoBlow_r (by assumption) | exact fFirst_r fNoTh_r fNoTh_r (by assumption)))
  · refine b_X12_longest [21] ?_
    conv => whnf
    have r0 : (fUnk c (nI 1)) = 0 := (in_F c6)
    rw [qA_0 r0, qB_0 r0] at hK
    have uc := r0
    exact ml_lon hI.fm h (nO (a.1 0) - 1) 0 s nob (Or.inl rfl) (by omega) (hK m s hM)
theorem ml_spa {m : MS} {w : WS} {n : Nat} {A P : Nat → Nat} {v z2 : Int32} (hv : ¬ v ≤ 0) {K : Option Value → AH → Prop} (h : mX m w n A P) : ∀ (k i : Nat) (s : S3) (x : Int32), i + k = n → (∀ s2 : S3, K (some (.int (itr (spaI w n P v) k i x))) (mC m s2.1 s2.2.2)) → am_E i_X12_spared 34 [some (.ref 0), some (.int v), some (.int z2), some (.int x), some (.int (nI i))] [] (mC m s.1 s.2.2) K := by
  intro k
  induction k with
  | zero =>
    intro i s x hi hK
    obtain rfl : i = n := by omega
    refine b_X12_spared [34] ?_
    conv => whnf
    refine ⟨fun c40 => ?_, fun c40 => absurd (by rw [h.n]; exact nI_le (Nat.le_refl _) (by have := h.n8; omega)) c40⟩
    refine b_X12_spared [34] ?_
    conv => whnf
    exact hK s
  | succ k ih =>
    intro i s x hi hK
    refine b_X12_spared [34] ?_
    conv => whnf
    refine ⟨fun c40 => absurd c40 (by rw [h.n]; exact nI_ge (by omega) (by have := h.n8; omega)), fun c40 => ?_⟩
    conv => whnf
    refine m_fb (m := m) (s := s) h (by omega) hv (fun s2 hs2 hb2 => ?_)
    refine b_X12_spared [34] ?_
    conv => whnf
    have e4 : spaI w n P v i x = x &&& (butI s2.2.2 (nI i) ^^^ Int32.ofInt (-1)) := by rw [hs2.2]; rfl
    simp only [itr, e4] at hK
    have h2 := ih (i + 1) s2 _ (by omega) hK
    rw [← nI_add i 1] at h2
    exact h2
theorem m_spared {a : Ab} {m : MS} {s : S3} {v : Int32} (hI : Inv a) (hM : MR a m)  {K : Option Value → AH → Prop} (hK : ∀ m2 (s2 : S3), MR (qB a (fNoBlow v)) m2 → K (some (.int (qA (fNoBlow v) (itr (spaI (a.1 0) (nO (a.1 0)) (plW (a.1 0)) v) (nO (a.1 0)) 0 (fWhole (a.1 0)))))) (mC m2 s2.1 s2.2.2)) : am_M i_X12_spared [.ref 0, .int v] (mC m s.1 s.2.2) K := by
  have h := hM.x hI
  have hn := hI.n
  have hn8 := hI.n8
  refine e_X12_spared [34] ?_
  conv => whnf
  refine m_nb ?_
  refine b_X12_spared [34] ?_
  conv => whnf
  refine ⟨fun c6 => ?_, fun c6 => ?_⟩
  · refine b_X12_spared [34] ?_
    conv => whnf
    have r0 : (fNoBlow v) = 0 := c6
    rw [qA_0 r0, qB_0 r0] at hK
    obtain ⟨v_, hv1, hv2, rfl⟩ := fNoBlow_0 r0
    have hv0 : ¬ nI v_ ≤ 0 := v_b hv1 (by omega)
    rw [hM.n, h.br]
    exact ml_spa hv0 h (nO (a.1 0)) 0 s _ (by omega) (fun s2 => hK m s2 hM)
  · conv => whnf
    refine m_no (x := (fNoBlow v)) (by first | (unfold rfs; decide) | exact fNoBlow_r (by assumption) | exact fFirst_r fNoTh_r fNoTh_r (by assumption)) ?_
    refine b_X12_spared [34] ?_
    conv => whnf
    have e0 : (fNoBlow v) = (fNoBlow v) := rfl
    rw [e0, qA_n (rfs_n (by first | (unfold rfs; decide) | exact fNoBlow_r (by assumption) | exact fFirst_r fNoTh_r fNoTh_r (by assumption)))] at hK
    exact hK _ s (hM.bump (by first | (unfold rfs; decide) | exact fNoBlow_r (by assumption) | exact fFirst_r fNoTh_r fNoTh_r (by assumption)))
theorem m_apart {a : Ab} {m : MS} {s : S3} {x y : Int32} (hI : Inv a) (hM : MR a m)  {K : Option Value → AH → Prop} (hK : ∀ m2 (s2 : S3), MR (qB a (fFirst (fNoTh ((a.1 0).1 0) x) (fNoTh ((a.1 0).1 0) y))) m2 → K (some (.int (qA (fFirst (fNoTh ((a.1 0).1 0) x) (fNoTh ((a.1 0).1 0) y)) (absI (nI ((plW (a.1 0)) x.toNatClampNeg) - nI ((plW (a.1 0)) y.toNatClampNeg)))))) (mC m2 s2.1 s2.2.2)) : am_M i_X12_apart [.ref 0, .int x, .int y] (mC m s.1 s.2.2) K := by
  have h := hM.x hI
  have hn := hI.n
  have hn8 := hI.n8
  refine e_X12_apart [] ?_
  conv => whnf
  refine m_n2 hM ?_
  refine b_X12_apart [] ?_
  conv => whnf
  refine ⟨fun c8 => ?_, fun c8 => ?_⟩
  · refine b_X12_apart [] ?_
    conv => whnf
    have r0 : (fFirst (fNoTh ((a.1 0).1 0) x) (fNoTh ((a.1 0).1 0) y)) = 0 := c8
    rw [qA_0 r0, qB_0 r0] at hK
    obtain ⟨r3a, r3b⟩ := fFirst_0 r0
    obtain ⟨x_, hx, rfl⟩ := fNoTh_0 (n := nO (a.1 0)) (by omega) (by rw [← hn]; exact r3a)
    have ex : (nI x_).toNatClampNeg = x_ := nI_clamp (by omega)
    try rw [ex] at hK
    obtain ⟨y_, hy, rfl⟩ := fNoTh_0 (n := nO (a.1 0)) (by omega) (by rw [← hn]; exact r3b)
    have ey : (nI y_).toNatClampNeg = y_ := nI_clamp (by omega)
    try rw [ey] at hK
    refine m_placeOf (m := m) (g := s.1) (b := s.2.2) h.ok hx ?_
    refine b_X12_apart [] ?_
    conv => whnf
    refine m_placeOf (m := m) (g := s.1) (b := s.2.2) h.ok hy ?_
    refine b_X12_apart [] ?_
    conv => whnf
    refine m_far ?_
    rw [fFar_abs (by have := (h.P hx).1; omega) (by have := (h.P hy).1; omega)]
    refine b_X12_apart [] ?_
    conv => whnf
    exact hK m s hM
  · conv => whnf
    refine m_no (x := (fFirst (fNoTh ((a.1 0).1 0) x) (fNoTh ((a.1 0).1 0) y))) (by first | (unfold rfs; decide) | exact fNoBlow_r (by assumption) | exact fFirst_r fNoTh_r fNoTh_r (by assumption)) ?_
    refine b_X12_apart [] ?_
    conv => whnf
    refine b_X12_apart [] ?_
    conv => whnf
    have e0 : (fFirst (fNoTh ((a.1 0).1 0) x) (fNoTh ((a.1 0).1 0) y)) = (fFirst (fNoTh ((a.1 0).1 0) x) (fNoTh ((a.1 0).1 0) y)) := rfl
    rw [e0, qA_n (rfs_n (by first | (unfold rfs; decide) | exact fNoBlow_r (by assumption) | exact fFirst_r fNoTh_r fNoTh_r (by assumption)))] at hK
    exact hK _ s (hM.bump (by first | (unfold rfs; decide) | exact fNoBlow_r (by assumption) | exact fFirst_r fNoTh_r fNoTh_r (by assumption)))
def jnd (w : WS) (i : Nat) : Bool := decide (0 < i) && (!(hasB (w.1 1) (w.2 3 (i - 1))) && !(fCut (w.1 2) (nI (i - 1))))
theorem ml_hp {m : MS} {w : WS} {n : Nat} {A P : Nat → Nat} {s : S3} {K : Option Value → AH → Prop} (h : mX m w n A P) : ∀ (k i : Nat) (x : Int32), i + k = n → (K (some (.int (itr (fStr w) k i (x, jnd w i)).1)) (mC m s.1 s.2.2)) → am_E i_X12_heaps 4 [some (.ref 0), some (.int x), some (.int (nI i)), none] [] (mC m s.1 s.2.2) K := by
  intro k
  induction k with
  | zero =>
    intro i x hi hK
    obtain rfl : i = n := by omega
    refine b_X12_heaps [4] ?_
    conv => whnf
    refine ⟨fun c9 => ?_, fun c9 => absurd (by rw [h.n]; exact nI_le (Nat.le_refl _) (by have := h.n8; omega)) c9⟩
    refine b_X12_heaps [4] ?_
    conv => whnf
    exact hK
  | succ k ih =>
    intro i x hi hK
    have hn8 := h.n8
    have hA := h.wA (show i < n by omega)
    have ha : w.2 3 i = nI (A i) := (h.2.2.2.1 i (by omega)).1
    refine b_X12_heaps [4] ?_
    conv => whnf
    refine ⟨fun c9 => absurd c9 (by rw [h.n]; exact nI_ge (by omega) (by have := h.n8; omega)), fun c9 => ?_⟩
    conv => whnf
    refine ⟨fun c13 => ?_, fun c13 => ?_⟩
    · refine b_X12_heaps [4] ?_
      conv => whnf
      refine ⟨(vp_in_nI (by omega) (by decide)), ?_⟩
      conv => whnf
      rw [nI_clamp (show i < 2 ^ 31 by omega), hA.1, h.br]
      refine m_hs (by omega) ?_
      refine b_X12_heaps [4] ?_
      conv => whnf
      refine ⟨fun c67 => ?_, fun c67 => ?_⟩
      · conv => whnf
        refine ⟨fun c71 => ?_, fun c71 => absurd (by decide) c71⟩
        refine b_X12_heaps [4] ?_
        conv => whnf
        have ej : jnd w i = false := by
          have : i = 0 := by
            have := (nI_leI (a := i) (b := 0) (by omega) (by decide)).mp (by rw [nI_0]; exact c13)
            omega
          rw [this]; rfl
        have e4 : fStr w i (x, jnd w i) = (x + nI 1, jnd w (i + 1)) := by
          unfold fStr
          have : jnd w (i + 1) = (!(hasB (w.1 1) (w.2 3 i)) && !(fCut (w.1 2) (nI i))) := by unfold jnd; simp
          rw [this, ha, bI_0.mp c67, ej]
          rfl
        simp only [itr, e4] at hK
        have h2 := ih (i + 1) (x + nI 1) (by omega) hK
        rw [← nI_add i 1] at h2
        exact am_wk (by exact ⟨Or.inr rfl, Or.inr rfl, Or.inr rfl, Or.inl rfl, trivial⟩) h2
      · refine b_X12_heaps [4] ?_
        conv => whnf
        refine b_X12_heaps [4] ?_
        conv => whnf
        have ej : jnd w i = false := by
          have : i = 0 := by
            have := (nI_leI (a := i) (b := 0) (by omega) (by decide)).mp (by rw [nI_0]; exact c13)
            omega
          rw [this]; rfl
        have e4 : fStr w i (x, jnd w i) = (x, jnd w (i + 1)) := by
          unfold fStr
          have : jnd w (i + 1) = (!(hasB (w.1 1) (w.2 3 i)) && !(fCut (w.1 2) (nI i))) := by unfold jnd; simp
          rw [this, ha, bI_n0.mp c67, ej]
          rfl
        simp only [itr, e4] at hK
        rw [show x + nI 0 = x from by rw [nI_0, Int32.add_zero]]
        have h2 := ih (i + 1) (x) (by omega) hK
        rw [← nI_add i 1] at h2
        exact am_wk (by exact ⟨Or.inr rfl, Or.inr rfl, Or.inr rfl, Or.inl rfl, trivial⟩) h2
    · conv => whnf
      have hi0 : 0 < i := Nat.pos_of_ne_zero (fun z => c13 (by rw [z]; decide))
      have e9 : nI i - nI 1 = nI (i - 1) := nI_m i hi0
      have hA1 := h.wA (show i - 1 < n by omega)
      have hj1 : w.2 3 (i - 1) = nI (A (i - 1)) := (h.2.2.2.1 (i - 1) (by omega)).1
      refine ⟨(by rw [e9]; exact vp_in_nI (by omega) (by decide)), ?_⟩
      conv => whnf
      rw [e9, nI_clamp (show i - 1 < 2 ^ 31 by omega), hA1.1, h.br]
      refine m_hs (by omega) ?_
      refine b_X12_heaps [4] ?_
      conv => whnf
      refine ⟨fun c31 => ?_, fun c31 => ?_⟩
      · conv => whnf
        rw [e9, h.cu]
        refine m_hs (by omega) ?_
        refine b_X12_heaps [4] ?_
        conv => whnf
        refine ⟨fun c44 => ?_, fun c44 => ?_⟩
        · conv => whnf
          refine b_X12_heaps [4] ?_
          conv => whnf
          refine ⟨(vp_in_nI (by omega) (by decide)), ?_⟩
          conv => whnf
          rw [nI_clamp (show i < 2 ^ 31 by omega), hA.1, h.br]
          refine m_hs (by omega) ?_
          refine b_X12_heaps [4] ?_
          conv => whnf
          refine ⟨fun c67 => ?_, fun c67 => ?_⟩
          · conv => whnf
            refine ⟨fun c71 => absurd c71 (by decide), fun c71 => ?_⟩
            conv => whnf
            refine b_X12_heaps [4] ?_
            conv => whnf
            have ej : jnd w i = true := by
              unfold jnd
              rw [hj1, fCut_hasB (by omega), bI_0.mp c31, bI_0.mp c44, decide_eq_true (show 0 < i by omega)]
              rfl
            have e4 : fStr w i (x, jnd w i) = (x, jnd w (i + 1)) := by
              unfold fStr
              have : jnd w (i + 1) = (!(hasB (w.1 1) (w.2 3 i)) && !(fCut (w.1 2) (nI i))) := by unfold jnd; simp
              rw [this, ha, bI_0.mp c67, ej]
              rfl
            simp only [itr, e4] at hK
            rw [show x + nI 0 = x from by rw [nI_0, Int32.add_zero]]
            have h2 := ih (i + 1) (x) (by omega) hK
            rw [← nI_add i 1] at h2
            exact am_wk (by exact ⟨Or.inr rfl, Or.inr rfl, Or.inr rfl, Or.inl rfl, trivial⟩) h2
          · refine b_X12_heaps [4] ?_
            conv => whnf
            refine b_X12_heaps [4] ?_
            conv => whnf
            have ej : jnd w i = true := by
              unfold jnd
              rw [hj1, fCut_hasB (by omega), bI_0.mp c31, bI_0.mp c44, decide_eq_true (show 0 < i by omega)]
              rfl
            have e4 : fStr w i (x, jnd w i) = (x, jnd w (i + 1)) := by
              unfold fStr
              have : jnd w (i + 1) = (!(hasB (w.1 1) (w.2 3 i)) && !(fCut (w.1 2) (nI i))) := by unfold jnd; simp
              rw [this, ha, bI_n0.mp c67, ej]
              rfl
            simp only [itr, e4] at hK
            rw [show x + nI 0 = x from by rw [nI_0, Int32.add_zero]]
            have h2 := ih (i + 1) (x) (by omega) hK
            rw [← nI_add i 1] at h2
            exact am_wk (by exact ⟨Or.inr rfl, Or.inr rfl, Or.inr rfl, Or.inl rfl, trivial⟩) h2
        · refine b_X12_heaps [4] ?_
          conv => whnf
          refine ⟨(vp_in_nI (by omega) (by decide)), ?_⟩
          conv => whnf
          rw [nI_clamp (show i < 2 ^ 31 by omega), hA.1, h.br]
          refine m_hs (by omega) ?_
          refine b_X12_heaps [4] ?_
          conv => whnf
          refine ⟨fun c67 => ?_, fun c67 => ?_⟩
          · conv => whnf
            refine ⟨fun c71 => ?_, fun c71 => absurd (by decide) c71⟩
            refine b_X12_heaps [4] ?_
            conv => whnf
            have ej : jnd w i = false := by
              unfold jnd
              rw [hj1, fCut_hasB (by omega), bI_n0.mp c44]
              simp
            have e4 : fStr w i (x, jnd w i) = (x + nI 1, jnd w (i + 1)) := by
              unfold fStr
              have : jnd w (i + 1) = (!(hasB (w.1 1) (w.2 3 i)) && !(fCut (w.1 2) (nI i))) := by unfold jnd; simp
              rw [this, ha, bI_0.mp c67, ej]
              rfl
            simp only [itr, e4] at hK
            have h2 := ih (i + 1) (x + nI 1) (by omega) hK
            rw [← nI_add i 1] at h2
            exact am_wk (by exact ⟨Or.inr rfl, Or.inr rfl, Or.inr rfl, Or.inl rfl, trivial⟩) h2
          · refine b_X12_heaps [4] ?_
            conv => whnf
            refine b_X12_heaps [4] ?_
            conv => whnf
            have ej : jnd w i = false := by
              unfold jnd
              rw [hj1, fCut_hasB (by omega), bI_n0.mp c44]
              simp
            have e4 : fStr w i (x, jnd w i) = (x, jnd w (i + 1)) := by
              unfold fStr
              have : jnd w (i + 1) = (!(hasB (w.1 1) (w.2 3 i)) && !(fCut (w.1 2) (nI i))) := by unfold jnd; simp
              rw [this, ha, bI_n0.mp c67, ej]
              rfl
            simp only [itr, e4] at hK
            rw [show x + nI 0 = x from by rw [nI_0, Int32.add_zero]]
            have h2 := ih (i + 1) (x) (by omega) hK
            rw [← nI_add i 1] at h2
            exact am_wk (by exact ⟨Or.inr rfl, Or.inr rfl, Or.inr rfl, Or.inl rfl, trivial⟩) h2
      · refine b_X12_heaps [4] ?_
        conv => whnf
        refine ⟨(vp_in_nI (by omega) (by decide)), ?_⟩
        conv => whnf
        rw [nI_clamp (show i < 2 ^ 31 by omega), hA.1, h.br]
        refine m_hs (by omega) ?_
        refine b_X12_heaps [4] ?_
        conv => whnf
        refine ⟨fun c67 => ?_, fun c67 => ?_⟩
        · conv => whnf
          refine ⟨fun c71 => ?_, fun c71 => absurd (by decide) c71⟩
          refine b_X12_heaps [4] ?_
          conv => whnf
          have ej : jnd w i = false := by
            unfold jnd
            rw [hj1, bI_n0.mp c31]
            simp
          have e4 : fStr w i (x, jnd w i) = (x + nI 1, jnd w (i + 1)) := by
            unfold fStr
            have : jnd w (i + 1) = (!(hasB (w.1 1) (w.2 3 i)) && !(fCut (w.1 2) (nI i))) := by unfold jnd; simp
            rw [this, ha, bI_0.mp c67, ej]
            rfl
          simp only [itr, e4] at hK
          have h2 := ih (i + 1) (x + nI 1) (by omega) hK
          rw [← nI_add i 1] at h2
          exact am_wk (by exact ⟨Or.inr rfl, Or.inr rfl, Or.inr rfl, Or.inl rfl, trivial⟩) h2
        · refine b_X12_heaps [4] ?_
          conv => whnf
          refine b_X12_heaps [4] ?_
          conv => whnf
          have ej : jnd w i = false := by
            unfold jnd
            rw [hj1, bI_n0.mp c31]
            simp
          have e4 : fStr w i (x, jnd w i) = (x, jnd w (i + 1)) := by
            unfold fStr
            have : jnd w (i + 1) = (!(hasB (w.1 1) (w.2 3 i)) && !(fCut (w.1 2) (nI i))) := by unfold jnd; simp
            rw [this, ha, bI_n0.mp c67, ej]
            rfl
          simp only [itr, e4] at hK
          rw [show x + nI 0 = x from by rw [nI_0, Int32.add_zero]]
          have h2 := ih (i + 1) (x) (by omega) hK
          rw [← nI_add i 1] at h2
          exact am_wk (by exact ⟨Or.inr rfl, Or.inr rfl, Or.inr rfl, Or.inl rfl, trivial⟩) h2
theorem m_heaps {a : Ab} {m : MS} {s : S3} (hI : Inv a) (hM : MR a m) {K : Option Value → AH → Prop} (hK : K (some (.int ((itr (fStr (a.1 0)) (nO (a.1 0)) 0 (nI 0, false)).1))) (mC m s.1 s.2.2)) : am_M i_X12_heaps [.ref 0] (mC m s.1 s.2.2) K := by
  refine e_X12_heaps [4] ?_
  conv => whnf
  exact am_wk (by exact ⟨Or.inr rfl, Or.inr rfl, Or.inr rfl, Or.inl rfl, trivial⟩) (ml_hp (hM.x hI) (nO (a.1 0)) 0 (nI 0) (by omega) hK)
