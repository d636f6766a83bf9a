/-! SPECS of the model: the next order -/
def v4 (M2 M : MS) : Prop := M2.1 = M.1 ∧ ∀ j, j ≠ 4 → M2.2 j = M.2 j
theorem v4.rf (M : MS) : v4 M M := ⟨rfl, fun _ _ => rfl⟩
theorem v4.tr {A B C : MS} (h : v4 A B) (g : v4 B C) : v4 A C := ⟨h.1.trans g.1, fun j hj => (h.2 j hj).trans (g.2 j hj)⟩
theorem v4.a (M : MS) (g : Nat → Int32) : v4 (setA M 4 g) M := ⟨rfl, fun j hj => if_neg hj⟩
theorem mR.lay {m : MS} {w : WS} {i : Nat} (h : mR m w) : mR (setA m 4 (upd (m.2 4) i (nI i))) (layF i w) := by
  refine ⟨h.1, fun q hq x hx => ?_⟩
  match q, hq with
  | 0, _ => exact h.2 0 (by decide) x hx
  | 1, _ => exact h.2 1 (by decide) x hx
  | 2, _ => exact h.2 2 (by decide) x hx
  | 3, _ =>
    show upd (m.2 4) i (nI i) x = upd (w.2 3) i (nI i) x
    unfold upd
    rw [h.2 3 (by decide) x hx]
theorem ml_sorts {s : S3} {n : Nat} {K : Option Value → AH → Prop} (hn8 : n ≤ 8) : ∀ (k i : Nat) (M : MS) (w : WS), i + k = n → M.1 5 = nI n → mR M w → (∀ M2, mR M2 (itr layF k i w) → v4 M2 M → K none (mC M2 s.1 s.2.2)) → am_E i_X12_sorts 2 [some (.ref 0), some (.int (nI i))] [] (mC M s.1 s.2.2) K := by
  intro k
  induction k with
  | zero =>
    intro i M w hi hn hm hK
    refine b_X12_sorts [2] ?_
    conv => whnf
    refine ⟨fun c7 => ?_, fun c7 => absurd (by rw [hn]; exact nI_le (by omega) (by omega)) c7⟩
    refine b_X12_sorts [2] ?_
    conv => whnf
    exact hK M hm (v4.rf M)
  | succ k ih =>
    intro i M w hi hn hm hK
    refine b_X12_sorts [2] ?_
    conv => whnf
    refine ⟨fun c7 => absurd c7 (by rw [hn]; exact nI_ge (by omega) (by omega)), fun c7 => ?_⟩
    conv => whnf
    refine ⟨(vp_in_nI (show i < 8 by omega) (by decide)), ?_⟩
    rw [nI_clamp (show i < 2 ^ 31 by omega)]
    conv => whnf
    have h2 := ih (i + 1) (setA M 4 (upd (M.2 4) i (nI i))) (layF i w) (by omega) hn hm.lay (fun M2 h1 h2 => hK M2 h1 (h2.tr (v4.a _ _)))
    rw [← nI_add i 1] at h2
    exact h2
theorem m_sorts {s : S3} {n : Nat} {M : MS} {w : WS} {K : Option Value → AH → Prop} (hn8 : n ≤ 8) (hn : M.1 5 = nI n) (hm : mR M w) (hK : ∀ M2, mR M2 (itr layF n 0 w) → v4 M2 M → K none (mC M2 s.1 s.2.2)) : am_M i_X12_sorts [.ref 0] (mC M s.1 s.2.2) K := by
  refine e_X12_sorts [2] ?_
  conv => whnf
  exact ml_sorts hn8 n 0 M w (by omega) hn hm hK
theorem ml_low {s : S3} {M : MS} {w : WS} {n : Nat} {A P : Nat → Nat} (h : mX M w n A P) {K : Option Value → AH → Prop} : ∀ (k : Nat), k < n → (∀ x1, x1 = nI (lowF (w.2 3) k) + Int32.ofInt (-1) → am_E i_X12_nextOrder 34 [some (.ref 0), some (.int (x1)), none, none, none] [] (mC M s.1 s.2.2) K) → am_E i_X12_nextOrder 7 [some (.ref 0), some (.int (nI k + Int32.ofInt (-1))), none, none, none] [] (mC M s.1 s.2.2) K := by
  have hn8 := h.n8
  intro k
  induction k with
  | zero =>
    intro hk hK
    refine b_X12_nextOrder [7, 34] ?_
    conv => whnf
    refine ⟨fun c8 => ?_, fun c8 => absurd (by decide) c8⟩
    exact hK _ rfl
  | succ k ih =>
    intro hk hK
    rw [nI_m1]
    refine b_X12_nextOrder [7, 34] ?_
    conv => whnf
    refine ⟨fun c8 => absurd c8 (nI_pos (by omega)), fun c8 => ?_⟩
    conv => whnf
    refine ⟨(vp_in_nI (show k < 8 by omega) (by decide)), ?_⟩
    rw [nI_clamp (show k < 2 ^ 31 by omega)]
    conv => whnf
    refine ⟨(by rw [nI_add]; exact (vp_in_nI (show k + 1 < 8 by omega) (by decide))), ?_⟩
    rw [nI_add, nI_clamp (show k + 1 < 2 ^ 31 by omega)]
    conv => whnf
    refine ⟨fun c25 => ?_, fun c25 => ?_⟩
    · have c26 := c25
      rw [h.w (show k < 8 by omega), h.w (show k + 1 < 8 by omega)] at c26
      refine hK _ ?_
      rw [lowF, if_pos c26, nI_m1]
    · conv => whnf
      have c26 := c25
      rw [h.w (show k < 8 by omega), h.w (show k + 1 < 8 by omega)] at c26
      rw [lowF, if_neg c26] at hK
      have h2 := ih (by omega) hK
      rw [am_inc_m1]
      exact h2
theorem ml_high {s : S3} {M : MS} {w : WS} {n : Nat} {A P : Nat → Nat} (h : mX M w n A P) {K : Option Value → AH → Prop} {lo : Nat} (hlo : lo < n) : ∀ (k : Nat), lo + k < n → am_E i_X12_nextOrder 68 [some (.ref 0), some (.int (nI lo)), some (.int (nI (highF (w.2 3) lo k))), none, none] [] (mC M s.1 s.2.2) K → am_E i_X12_nextOrder 47 [some (.ref 0), some (.int (nI lo)), some (.int (nI (lo + k))), none, none] [] (mC M s.1 s.2.2) K := by
  have hn8 := h.n8
  intro k
  induction k with
  | zero =>
    intro hk hK
    rw [Nat.add_zero]
    refine b_X12_nextOrder [47, 68] ?_
    conv => whnf
    refine ⟨(vp_in_nI (show lo < 8 by omega) (by decide)), ?_⟩
    rw [nI_clamp (show lo < 2 ^ 31 by omega)]
    conv => whnf
    refine ⟨(vp_in_nI (show lo < 8 by omega) (by decide)), ?_⟩
    rw [nI_clamp (show lo < 2 ^ 31 by omega)]
    conv => whnf
    refine ⟨fun c59 => ?_, fun c59 => absurd (Int32.le_refl _) c59⟩
    exact hK
  | succ k ih =>
    intro hk hK
    refine b_X12_nextOrder [47, 68] ?_
    conv => whnf
    refine ⟨(vp_in_nI (show lo + (k + 1) < 8 by omega) (by decide)), ?_⟩
    rw [nI_clamp (show lo + (k + 1) < 2 ^ 31 by omega)]
    conv => whnf
    refine ⟨(vp_in_nI (show lo < 8 by omega) (by decide)), ?_⟩
    rw [nI_clamp (show lo < 2 ^ 31 by omega)]
    conv => whnf
    refine ⟨fun c59 => ?_, fun c59 => ?_⟩
    · have c60 := c59
      rw [h.w (show lo < 8 by omega), h.w (show lo + (k + 1) < 8 by omega)] at c60
      rw [highF, if_pos c60] at hK
      exact hK
    · conv => whnf
      have c60 := c59
      rw [h.w (show lo < 8 by omega), h.w (show lo + (k + 1) < 8 by omega)] at c60
      rw [highF, if_neg c60] at hK
      have h2 := ih (by omega) hK
      rw [am_inc_m1, show lo + (k + 1) = (lo + k) + 1 by omega, nI_m1]
      exact h2
theorem ml_rev {s : S3} {n : Nat} {K : Option Value → AH → Prop} (hn8 : n ≤ 8) : ∀ (f l r : Nat) (M : MS) (w : WS), mR M w → l ≤ n → r < n → r ≤ l + f → (∀ M2, mR M2 (revF f l r w) → v4 M2 M → K (some (.int (nI 1))) (mC M2 s.1 s.2.2)) → am_E i_X12_nextOrder 86 [some (.ref 0), none, none, some (.int (nI l)), some (.int (nI r))] [] (mC M s.1 s.2.2) K := by
  intro f
  induction f with
  | zero =>
    intro l r M w hm hl hr hf hK
    refine b_X12_nextOrder [86] ?_
    conv => whnf
    refine ⟨fun c89 => ?_, fun c89 => absurd (nI_le (by omega) (by omega)) c89⟩
    refine b_X12_nextOrder [86] ?_
    conv => whnf
    refine ⟨(Or.inr nI_one), ?_⟩
    exact hK M hm (v4.rf M)
  | succ f ih =>
    intro l r M w hm hl hr hf hK
    refine b_X12_nextOrder [86] ?_
    conv => whnf
    refine ⟨fun c89 => ?_, fun c89 => ?_⟩
    · refine b_X12_nextOrder [86] ?_
      conv => whnf
      refine ⟨(Or.inr nI_one), ?_⟩
      have hlr : ¬ l < r := fun z => absurd c89 (nI_ge z (by omega))
      rw [revF, if_neg hlr] at hK
      exact hK M hm (v4.rf M)
    · conv => whnf
      have hlr : l < r := Nat.not_le.mp (fun z => c89 (nI_le z (by omega)))
      refine m_xc (m := M) (s := s) (i := l) (j := r) (by omega) (by omega) ?_
      refine b_X12_nextOrder [86] ?_
      conv => whnf
      rw [revF, if_pos hlr] at hK
      have h2 := ih (l + 1) (r - 1) (xcM M l r) (wXch w l r) (hm.xc (by omega) (by omega)) (by omega) (by omega) (by omega) (fun M2 h1 h2 => hK M2 h1 (h2.tr (v4.a _ _)))
      rw [am_inc_m1, show nI r + Int32.ofInt (-1) = nI (r - 1) from by rw [show r = (r - 1) + 1 by omega, nI_m1]; rfl]
      rw [← nI_add l 1] at h2
      exact h2
theorem m_nxo {s : S3} {M : MS} {w : WS} {n : Nat} {A P : Nat → Nat} (h : mX M w n A P) {K : Option Value → AH → Prop} (hK0 : nxO w n = none → K (some (.int (nI 0))) (mC M s.1 s.2.2)) (hK1 : ∀ w2, nxO w n = some w2 → ∀ M2, mR M2 w2 → v4 M2 M → K (some (.int (nI 1))) (mC M2 s.1 s.2.2)) : am_M i_X12_nextOrder [.ref 0] (mC M s.1 s.2.2) K := by
  have hn := h.n
  have hn8 := h.n8
  have hx0 : M.1 5 - nI 2 = nI (n - 1) + Int32.ofInt (-1) ∨ (n = 0 ∧ M.1 5 - nI 2 < 0) := by
    rw [hn]
    have : ∀ n, n ≤ 8 → (nI n - nI 2 = nI (n - 1) + Int32.ofInt (-1) ∨ (n = 0 ∧ nI n - nI 2 < 0)) := by decide +kernel
    exact this n hn8
  rcases hx0 with hl2 | ⟨hn0, hlt⟩
  · by_cases hn0 : n = 0
    · exact absurd hl2 (by rw [hn, hn0]; decide)
    refine e_X12_nextOrder [7] ?_
    conv => whnf
    rw [hl2]
    rcases hlo : lowF (w.2 3) (n - 1) with _ | lo
    · refine ml_low h (n - 1) (by omega) (fun x1 hx1 => ?_)
      rw [hlo] at hx1
      have hz : x1 < 0 := by rw [hx1]; decide
      refine b_X12_nextOrder [34] ?_
      conv => whnf
      refine ⟨fun c35 => absurd c35 (Int32.not_le.mpr hz), fun c35 => ?_⟩
      conv => whnf
      refine ⟨(by first | exact Or.inl nI_0 | exact Or.inr nI_one | assumption), ?_⟩
      exact hK0 (by rw [nxO, hlo])
    · refine ml_low h (n - 1) (by omega) (fun x1 hx1 => ?_)
      rw [hlo, nI_m1] at hx1
      subst hx1
      have hle := lowF_le (w.2 3) (n - 1)
      rw [hlo] at hle
      have hh := highF_le (w.2 3) lo (n - 1 - lo)
      have hk := hK1 _ (show nxO w n = some (revF n (lo + 1) (n - 1) (wXch w lo (highF (w.2 3) lo (n - 1 - lo)))) by rw [nxO, hlo])
      refine b_X12_nextOrder [47] ?_
      conv => whnf
      refine ⟨fun c35 => ?_, fun c35 => absurd (nI_pos' (by omega)) c35⟩
      refine b_X12_nextOrder [47] ?_
      conv => whnf
      have hm : M.1 5 - nI 1 = nI (lo + (n - 1 - lo)) := by rw [hn, nI_m n (by omega)]; congr 1; omega
      rw [hm]
      refine ml_high h (by omega) (n - 1 - lo) (by omega) ?_
      refine b_X12_nextOrder [86] ?_
      conv => whnf
      refine m_xc (m := M) (s := s) (i := lo) (j := highF (w.2 3) lo (n - 1 - lo)) (by omega) (by omega) ?_
      refine b_X12_nextOrder [86] ?_
      conv => whnf
      rw [nI_add, show (xcM M lo (highF (w.2 3) lo (n - 1 - lo))).1 5 - nI 1 = nI (n - 1) from by show M.1 5 - nI 1 = _; rw [hn, nI_m n (by omega)]]
      exact am_wk (by exact ⟨Or.inr rfl, Or.inl rfl, Or.inl rfl, Or.inr rfl, Or.inr rfl, trivial⟩) (ml_rev hn8 n (lo + 1) (n - 1) _ _ (h.1.xc (by omega) (by omega)) (by omega) (by omega) (by omega) (fun M2 h1 h2 => hk M2 h1 (h2.tr (v4.a _ _))))
  · refine e_X12_nextOrder [7] ?_
    conv => whnf
    refine b_X12_nextOrder [] ?_
    conv => whnf
    refine ⟨fun c8 => ?_, fun c8 => absurd hlt c8⟩
    refine b_X12_nextOrder [] ?_
    conv => whnf
    refine ⟨fun c35 => absurd hlt (Int32.not_lt.mpr c35), fun c35 => ?_⟩
    conv => whnf
    refine ⟨Or.inl nI_0, ?_⟩
    exact hK0 (by subst hn0; rfl)
