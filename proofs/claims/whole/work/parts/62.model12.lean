/-! SPECS of the model: changes -/
theorem mr_now {a : Ab} {m m2 : MS} {w : WS} (h : MR a m) (hw : mR m2 w) (e24 : m2.1 24 = m.1 24) (e13 : m2.1 13 = m.1 13) (e17 : m2.1 17 = m.1 17) (e20 : m2.1 20 = m.1 20) (f0 : m2.2 0 = m.2 0) (f11 : m2.2 11 = m.2 11) (f5 : m2.2 5 = m.2 5) (f9 : m2.2 9 = m.2 9) : MR (nowA a w) m2 := by
  obtain ⟨a1, a2, a3, a4, a5, a6, a7⟩ := h
  have e2 : ∀ j, j ≠ 0 → va_up a.1 0 w j = a.1 j := fun j hj => if_neg hj
  refine ⟨hw, by rw [f0]; exact a2, by rw [e24, f11]; exact a3, by rw [e13, f5]; exact a4, ⟨by rw [e17]; exact a5.1, fun z => ?_⟩, by rw [e20]; exact a6, fun k hk => ?_⟩
  · rw [f9]
    show kpt _ _ (va_up a.1 0 w 1)
    rw [e2 1 (by omega)]; exact a5.2 z
  · rw [f9]
    show kpt _ _ (va_up a.1 0 w (2 + k))
    rw [e2 _ (by omega)]; exact a7 k hk
theorem mr_fg {a : Ab} {m : MS} {k : Nat} (h : MR a m) (hk : k ≤ a.2.2 3) : MR (fgA a k) (setI m 20 (nI k)) := by
  obtain ⟨a1, a2, a3, a4, a5, a6, a7⟩ := h
  have e : ∀ j, j ≠ 20 → (setI m 20 (nI k)).1 j = m.1 j := fun j hj => if_neg hj
  exact ⟨⟨fun i hi => (e (i + 5) (by omega)).trans (a1.1 i hi), a1.2⟩, a2, a3, a4, a5, rfl, fun j hj => a7 j (by have : j < k := hj; omega)⟩
theorem pkM_eq {m : MS} {w : WS} (h : mR m w) {j : Nat} (hj : j < 36) : pkM m j = pkW w j := by
  unfold pkM pkW
  by_cases h1 : j < 8
  · rw [if_pos h1, if_pos h1]; exact h.2 0 (by decide) j h1
  · rw [if_neg h1, if_neg h1]
    by_cases h2 : j < 16
    · rw [if_pos h2, if_pos h2]; exact h.2 1 (by decide) _ (by omega)
    · rw [if_neg h2, if_neg h2]
      by_cases h3 : j < 24
      · rw [if_pos h3, if_pos h3]; exact h.2 2 (by decide) _ (by omega)
      · rw [if_neg h3, if_neg h3]
        by_cases h4 : j < 32
        · rw [if_pos h4, if_pos h4]; exact h.2 3 (by decide) _ (by omega)
        · rw [if_neg h4, if_neg h4]; exact h.1 (j - 32) (by omega)
theorem pkM_cg {m m2 : MS} (h : ∀ i, i < 4 → m2.1 (i + 5) = m.1 (i + 5)) (g : ∀ i, i < 4 → m2.2 (i + 1) = m.2 (i + 1)) {j : Nat} (hj : j < 36) : pkM m2 j = pkM m j := by
  unfold pkM
  by_cases h1 : j < 8
  · rw [if_pos h1, if_pos h1, g 0 (by decide)]
  · rw [if_neg h1, if_neg h1]
    by_cases h2 : j < 16
    · rw [if_pos h2, if_pos h2, g 1 (by decide)]
    · rw [if_neg h2, if_neg h2]
      by_cases h3 : j < 24
      · rw [if_pos h3, if_pos h3, g 2 (by decide)]
      · rw [if_neg h3, if_neg h3]
        by_cases h4 : j < 32
        · rw [if_pos h4, if_pos h4, g 3 (by decide)]
        · rw [if_neg h4, if_neg h4]; exact h (j - 32) (by omega)
theorem mR.w2 {m : MS} {w w2 : WS} (h : mR m w) (e : wEq w2 w) : mR m w2 := ⟨fun i hi => (h.1 i hi).trans (e.1 i hi).symm, fun i hi j hj => (h.2 i hi j hj).trans (e.2 i (by omega) j hj).symm⟩
theorem ld_mR {m : MS} {b : Nat} {w : WS} (h : kpt (m.2 9) b w) : mR (ldM m (40 * b)) w := by
  have g : ∀ j, j < 8 → m.2 9 (40 * b + j) = w.2 0 j := fun j hj => (h j (by omega)).trans (if_pos hj)
  have g1 : ∀ j, j < 8 → m.2 9 (40 * b + 8 + j) = w.2 1 j := fun j hj => by rw [Nat.add_assoc, h (8 + j) (by omega)]; unfold pkW; rw [if_neg (by omega), if_pos (by omega), Nat.add_sub_cancel_left]
  have g2 : ∀ j, j < 8 → m.2 9 (40 * b + 8 + 8 + j) = w.2 2 j := fun j hj => by rw [show 40 * b + 8 + 8 + j = 40 * b + (16 + j) by omega, h (16 + j) (by omega)]; unfold pkW; rw [if_neg (by omega), if_neg (by omega), if_pos (by omega), Nat.add_sub_cancel_left]
  have g3 : ∀ j, j < 8 → m.2 9 (40 * b + 8 + 8 + 8 + j) = w.2 3 j := fun j hj => by rw [show 40 * b + 8 + 8 + 8 + j = 40 * b + (24 + j) by omega, h (24 + j) (by omega)]; unfold pkW; rw [if_neg (by omega), if_neg (by omega), if_neg (by omega), if_pos (by omega), Nat.add_sub_cancel_left]
  have gi : ∀ d, d < 4 → m.2 9 (40 * b + (32 + d)) = w.1 d := fun d hd => by rw [h (32 + d) (by omega)]; unfold pkW; rw [if_neg (by omega), if_neg (by omega), if_neg (by omega), if_neg (by omega), Nat.add_sub_cancel_left]
  refine ⟨fun i hi => ?_, fun i hi j hj => ?_⟩
  · match i, hi with
    | 0, _ => exact gi 0 (by decide)
    | 1, _ => exact gi 1 (by decide)
    | 2, _ => exact gi 2 (by decide)
    | 3, _ => exact gi 3 (by decide)
  · match i, hi with
    | 0, _ => show blit (m.2 1) 0 8 (fun j => m.2 9 (40 * b + j)) j = w.2 0 j; unfold blit; rw [if_pos (by omega)]; exact g j hj
    | 1, _ => show blit (m.2 2) 0 8 (fun j => m.2 9 (40 * b + 8 + j)) j = w.2 1 j; unfold blit; rw [if_pos (by omega)]; exact g1 j hj
    | 2, _ => show blit (m.2 3) 0 8 (fun j => m.2 9 (40 * b + 8 + 8 + j)) j = w.2 2 j; unfold blit; rw [if_pos (by omega)]; exact g2 j hj
    | 3, _ => show blit (m.2 4) 0 8 (fun j => m.2 9 (40 * b + 8 + 8 + 8 + j)) j = w.2 3 j; unfold blit; rw [if_pos (by omega)]; exact g3 j hj
def shf (F : Nat → Int32) (k : Nat) : Nat → Int32 := fun j => if 120 ≤ j ∧ j < k then F (j + 40) else F j
theorem shf_s (F : Nat → Int32) (k : Nat) (h : 120 ≤ k) : upd (shf F k) k (shf F k (k + 40)) = shf F (k + 1) := by
  funext j
  unfold upd shf
  by_cases q : j = k
  · rw [if_pos q, if_neg (by omega), if_pos (by omega), q]
  · rw [if_neg q]
    by_cases r : 120 ≤ j ∧ j < k
    · rw [if_pos r, if_pos (by omega)]
    · rw [if_neg r, if_neg (by omega)]
theorem shf_0 (F : Nat → Int32) : shf F 120 = F := by
  funext j
  unfold shf
  rw [if_neg (by omega)]
/-- one more is kept -/
theorem mr_kp {a : Ab} {m : MS} {w2 : WS} {F : Nat → Int32} {z f : Int32} (h : MR a m) (h8 : a.2.2 3 ≤ 8) (hw : wEq w2 (a.1 0)) {b : Nat} {F0 : Nat → Int32} (hb : b = if a.2.2 3 = 8 then 7 else a.2.2 3) (hF0 : F0 = if a.2.2 3 = 8 then shf (m.2 9) 400 else m.2 9) (k1 : ∀ j, j < 36 → F (40 * (3 + b) + j) = pkM m j) (k2 : ∀ j, (j < 40 * (3 + b) ∨ 40 * (3 + b) + 36 ≤ j) → F j = F0 j) : MR (kpA a w2) (setI (kM m F f z) 20 (nI (b + 1))) := by
  have hpk : ∀ j, j < 36 → pkM m j = pkW w2 j := fun j hj => pkM_eq (h.1.w2 hw) hj
  obtain ⟨a1, a2, a3, a4, a5, a6, a7⟩ := h
  have e : ∀ j, j ≠ 20 → j ≠ 18 → j ≠ 19 → (setI (kM m F f z) 20 (nI (b + 1))).1 j = m.1 j := fun j h1 h2 h3 => (if_neg h1).trans ((if_neg h3).trans (if_neg h2))
  have e9 : ∀ j, j ≠ 9 → (setI (kM m F f z) 20 (nI (b + 1))).2 j = m.2 j := fun j h1 => if_neg h1
  have hb1 : b + 1 = min (a.2.2 3 + 1) 8 := by rw [hb]; split <;> omega
  refine ⟨⟨fun i hi => (e (i + 5) (by omega) (by omega) (by omega)).trans (a1.1 i hi), fun i hi => by rw [e9 _ (by omega)]; exact a1.2 i hi⟩, a2, a3, a4, ⟨a5.1, fun y j hj => ?_⟩, by rw [hb1]; rfl, fun k hk => ?_⟩
  · show F (40 * 0 + j) = pkW (a.1 1) j
    rw [k2 _ (by omega), ← a5.2 y j hj, hF0]
    split
    · unfold shf; rw [if_neg (by omega)]
    · rfl
  · have hk : k < min (a.2.2 3 + 1) 8 := hk
    intro j hj
    show F (40 * (3 + k) + j) = pkW (if 2 + k < 2 then a.1 (2 + k) else hst (fun k => a.1 (2 + k)) (a.2.2 3) w2 (2 + k - 2)) j
    rw [if_neg (by omega), Nat.add_sub_cancel_left]
    unfold hst
    by_cases q8 : a.2.2 3 = 8
    · rw [if_pos q8] at hb hF0
      rw [if_neg (by omega)]
      by_cases k7 : k = 7
      · rw [if_pos k7, k7, ← hpk j hj, ← k1 j hj, hb]
      · rw [if_neg k7, k2 _ (by omega), hF0]
        unfold shf
        rw [if_pos (by omega), show 40 * (3 + k) + j + 40 = 40 * (3 + (k + 1)) + j by omega]
        exact a7 (k + 1) (by omega) j hj
    · rw [if_neg q8] at hb hF0
      rw [if_pos (by omega)]
      by_cases k7 : k = a.2.2 3
      · rw [if_pos k7, k7, ← hpk j hj, ← k1 j hj, hb]
      · rw [if_neg k7, k2 _ (by omega), hF0]
        exact a7 k (by omega) j hj
theorem setA_same {m : MS} {i : Nat} {g : Nat → Int32} (h : g = m.2 i) : setA m i g = m := by
  have : va_up m.2 i g = m.2 := by
    funext j
    unfold va_up
    by_cases q : j = i
    · rw [if_pos q, h, q]
    · rw [if_neg q]
  unfold setA
  rw [this]
theorem ml_kb {m : MS} {s : S3} {K : Option Value → AH → Prop}  : ∀ (k i : Nat) (hi0 : 120 ≤ i), i + k = 400 → (am_E i_X12_keepsBack 40 [some (.ref 0), some (.int (nI 400))] [] (mC (setA m 9 (shf (m.2 9) 400)) s.1 s.2.2) K) → am_E i_X12_keepsBack 12 [some (.ref 0), some (.int (nI i))] [] (mC (setA m 9 (shf (m.2 9) i)) s.1 s.2.2) K := by
  intro k
  induction k with
  | zero =>
    intro i hi0 hi hK
    obtain rfl : i = 400 := by omega
    refine b_X12_keepsBack [12, 40] ?_
    conv => whnf
    refine ⟨fun c16 => ?_, fun c16 => absurd (by decide) c16⟩
    exact hK
  | succ k ih =>
    intro i hi0 hi hK
    refine b_X12_keepsBack [12, 40] ?_
    conv => whnf
    refine ⟨fun c16 => absurd c16 (nI_ge (by omega) (by omega)), fun c16 => ?_⟩
    conv => whnf
    refine ⟨(by rw [nI_add]; exact vp_in_nI (show i + 40 < 440 by omega) (by decide)), ?_⟩
    conv => whnf
    refine ⟨(vp_in_nI (show i < 440 by omega) (by decide)), ?_⟩
    rw [nI_add, nI_clamp (show i + 40 < 2 ^ 31 by omega), nI_clamp (show i < 2 ^ 31 by omega)]
    rw [show upd ((setA m 9 (shf (m.2 9) i)).2 9) i ((setA m 9 (shf (m.2 9) i)).2 9 (i + 40)) = shf (m.2 9) (i + 1) from shf_s _ _ hi0]
    conv => whnf
    have h2 := ih (i + 1) (by omega) (by omega) hK
    rw [← nI_add i 1] at h2
    exact h2
theorem m_kb {a : Ab} {m : MS} {s : S3} {w2 : WS} (hI : Inv a) (hM : MR a m) (hw : wEq w2 (a.1 0)) {K : Option Value → AH → Prop} (hK : ∀ m2, MR (kpA a w2) m2 → K none (mC m2 s.1 s.2.2)) : am_M i_X12_keepsBack [.ref 0] (mC m s.1 s.2.2) K := by
  have h8 := hI.2.2.2.2.2.1
  have e20 := hM.2.2.2.2.2.1
  refine e_X12_keepsBack [12, 40] ?_
  conv => whnf
  refine ⟨fun c6 => ?_, fun c6 => ?_⟩
  · conv => whnf
    have hs8 : a.2.2 3 = 8 := (nI_eq (by omega) (by decide)).mp (e20.symm.trans c6)
    have hz : m = setA m 9 (shf (m.2 9) 120) := by
      rw [shf_0]; exact (setA_same rfl).symm
    have hrun : am_E i_X12_keepsBack 40 [some (.ref 0), some (.int (nI 400))] [] (mC (setA m 9 (shf (m.2 9) 400)) s.1 s.2.2) K := by
      refine b_X12_keepsBack [] ?_
      conv => whnf
      have e8 : (setA m 9 (shf (m.2 9) 400)).1 20 = nI 8 := by
        show m.1 20 = nI 8
        rw [e20, hs8]
      rw [e8]
      rw [show nI 3 + (nI 8 - nI 1) = nI (3 + 7) from by decide]
      refine m_save (m := setI (setA m 9 (shf (m.2 9) 400)) 20 (nI 8 - nI 1)) (s := s) (b := 3 + 7) (by omega) (fun F z k1 k2 => ?_)
      refine b_X12_keepsBack [] ?_
      conv => whnf
      have h9 := hK _ (mr_kp (f := nI 1) (z := z) (F := F) hM h8 hw (b := 7) (F0 := shf (m.2 9) 400) (by rw [if_pos hs8]) (by rw [if_pos hs8]) (fun j hj => (k1 j hj).trans (pkM_cg (fun i hi => if_neg (by omega)) (fun i hi => if_neg (by omega)) hj)) k2)
      rw [show nI (7 + 1) = nI 8 - nI 1 + nI 1 from by decide] at h9
      exact h9
    have h2 := ml_kb (m := m) (s := s) (K := K) 280 120 (by omega) rfl hrun
    rw [← hz] at h2
    exact h2
  · refine b_X12_keepsBack [12, 40] ?_
    conv => whnf
    rw [e20, nI_add]
    have hs8 : ¬ a.2.2 3 = 8 := fun z => c6 (by rw [e20, z])
    refine m_save (m := m) (s := s) (b := 3 + a.2.2 3) (by omega) (fun F z k1 k2 => ?_)
    refine b_X12_keepsBack [12, 40] ?_
    conv => whnf
    have h9 := hK _ (mr_kp (f := nI 1) (z := z) (F := F) hM h8 hw (b := a.2.2 3) (F0 := m.2 9) (by rw [if_neg hs8]) (by rw [if_neg hs8]) k1 k2)
    rw [← nI_add, ← e20] at h9
    exact h9
