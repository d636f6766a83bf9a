/-! SPECS of the model: a blow; it is the class's -/
def gaU (w : WS) : Nat → Nat → Int32 → S3 → S3
  | 0, _, _, s => s
  | k + 1, j, v, s => if v ≤ 0 then s else if hasB (w.1 2) (nI j) = true then s else if hasB (w.1 1) (w.2 3 (j + 1)) = true then s else gaU w k (j + 1) (outF w (w.2 3 (j + 1)) v) (landF w (w.2 3 (j + 1)) v s)
def gaD (w : WS) : Nat → Int32 → S3 → S3
  | 0, _, s => s
  | j + 1, v, s => if v ≤ 0 then s else if hasB (w.1 2) (nI j) = true then s else if hasB (w.1 1) (w.2 3 j) = true then s else gaD w j (outF w (w.2 3 j) v) (landF w (w.2 3 j) v s)
theorem fCut_nI (cu : Int32) (j : Nat) (h : j < 2 ^ 31) : fCut cu (nI j) = hasB cu (nI j) := by
  unfold fCut
  rw [decide_eq_false (nI_pos h)]
  simp
theorem gaU_0 (w : WS) (k j : Nat) (v : Int32) (s : S3) (h : v ≤ 0) : gaU w k j v s = s := by
  cases k with
  | zero => rfl
  | succ k => rw [gaU, if_pos h]
theorem gaD_0 (w : WS) (j : Nat) (v : Int32) (s : S3) (h : v ≤ 0) : gaD w j v s = s := by
  cases j with
  | zero => rfl
  | succ k => rw [gaD, if_pos h]
theorem upF_ga (w : WS) : ∀ (k j : Nat) (r : Int32) (s : S3), j + k < 2 ^ 30 → upF w (k + 1) j r s = if r ≤ 0 then s else if hasB (w.1 1) (w.2 3 j) = true then s else gaU w k j (outF w (w.2 3 j) r) (landF w (w.2 3 j) r s) := by
  intro k
  induction k with
  | zero =>
    intro j r s hj
    rw [upF]
    split
    · rfl
    · split
      · rfl
      · unfold landF
        rw [gaU]
        split
        · split <;> rfl
        · rfl
  | succ k ih =>
    intro j r s hj
    rw [upF]
    split
    · rfl
    · split
      · rfl
      · unfold landF outF
        split
        · rw [fCut_nI _ _ (by omega), ih (j + 1) _ _ (by omega)]
          rw [gaU]
          by_cases h1 : r - fLoss (w.2 0 (w.2 3 j).toNatClampNeg) (w.2 1 (w.2 3 j).toNatClampNeg) ≤ 0
          · rw [if_pos h1, if_pos h1]
            split <;> rfl
          · rw [if_neg h1, if_neg h1]
        · rw [gaU_0 _ _ _ _ _ (by decide)]
theorem dnF_ga (w : WS) : ∀ (j : Nat) (r : Int32) (s : S3), j < 2 ^ 30 → dnF w (j + 1) r s = if r ≤ 0 then s else if hasB (w.1 1) (w.2 3 j) = true then s else gaD w j (outF w (w.2 3 j) r) (landF w (w.2 3 j) r s) := by
  intro k
  induction k with
  | zero =>
    intro r s hj
    rw [dnF]
    split
    · rfl
    · split
      · rfl
      · unfold landF
        rw [gaD]
        split
        · split <;> rfl
        · rfl
  | succ k ih =>
    intro r s hj
    rw [dnF]
    split
    · rfl
    · split
      · rfl
      · unfold landF outF
        split
        · rw [nI_m1, fCut_nI _ _ (by omega), ih _ _ (by omega)]
          rw [gaD]
          by_cases h1 : r - fLoss (w.2 0 (w.2 3 (k + 1)).toNatClampNeg) (w.2 1 (w.2 3 (k + 1)).toNatClampNeg) ≤ 0
          · rw [if_pos h1, if_pos h1]
            split <;> rfl
          · rw [if_neg h1, if_neg h1]
        · rw [gaD_0 _ _ _ _ (by decide)]
theorem landF_1 (w : WS) (t v : Int32) (s : S3) : (landF w t v s).1 = upd s.1 t.toNatClampNeg v ∧ (landF w t v s).2.1 = s.2.1 ||| (nI 1 <<< (t &&& 31)) := by
  unfold landF
  split <;> exact ⟨rfl, rfl⟩
theorem gaU_got (w : WS) (i : Nat) : ∀ (k j : Nat) (v : Int32) (s : S3), (∀ d, d < k → (w.2 3 (j + 1 + d)).toNatClampNeg ≠ i) → (gaU w k j v s).1 i = s.1 i := by
  intro k
  induction k with
  | zero => intro j v s _; rfl
  | succ k ih =>
    intro j v s h
    rw [gaU]
    split
    · rfl
    · split
      · rfl
      · split
        · rfl
        · rw [ih (j + 1) _ _ (fun d hd => by have := h (d + 1) (by omega); rwa [show j + 1 + (d + 1) = j + 1 + 1 + d by omega] at this), (landF_1 _ _ _ _).1]
          have := h 0 (by omega)
          simp only [upd]
          rw [if_neg (fun z => this z.symm)]
theorem gaU_hr (w : WS) : ∀ (k j : Nat) (v : Int32) (s : S3), s.2.1 ||| (gaU w k j v s).2.1 = (gaU w k j v s).2.1 := by
  intro k
  induction k with
  | zero => intro j v s; exact Int32.or_self
  | succ k ih =>
    intro j v s
    rw [gaU]
    split
    · exact Int32.or_self
    · split
      · exact Int32.or_self
      · split
        · exact Int32.or_self
        · have h1 := ih (j + 1) (outF w (w.2 3 (j + 1)) v) (landF w (w.2 3 (j + 1)) v s)
          rw [(landF_1 _ _ _ _).2] at h1
          rw [← h1, ← Int32.or_assoc, ← Int32.or_assoc, Int32.or_self]
theorem upd_same {f : Nat → Int32} {i : Nat} {v : Int32} (h : f i = v) : upd f i v = f := by
  funext j
  simp only [upd]
  split
  · rename_i z; rw [z, h]
  · rfl
/-- the class's wave, told as the model tells it -/
theorem blw_ga {w : WS} {n t : Nat} {A P : Nat → Nat} {v : Int32} (hn : n ≤ 8) (hA : ∀ j, j < n → w.2 3 j = nI (A j) ∧ A j < n ∧ P (A j) = j) (ht : P t < n ∧ A (P t) = t) (hv : ¬ v ≤ 0) : blw w n (P t) v = if hasB (w.1 1) (nI t) = true then (fun _ => nI 0, nI 0, nI 0) else gaD w (P t) (outF w (nI t) v) (gaU w (n - 1 - P t) (P t) (outF w (nI t) v) (landF w (nI t) v (fun _ => nI 0, nI 0, nI 0))) := by
  obtain ⟨hp, hap⟩ := ht
  have hpt : w.2 3 (P t) = nI t := by rw [(hA _ hp).1, hap]
  have ht8 : t < 8 := by have := (hA _ hp).2.1; omega
  unfold blw
  rw [show n - P t = (n - 1 - P t) + 1 by omega, upF_ga _ _ _ _ _ (by omega), dnF_ga _ _ _ _ (by omega), if_neg hv, if_neg hv, hpt]
  by_cases hb : hasB (w.1 1) (nI t) = true
  · rw [if_pos hb, if_pos hb, if_pos hb]
  · rw [if_neg hb, if_neg hb, if_neg hb]
    congr 1
    have e : (nI t).toNatClampNeg = t := nI_clamp (by omega)
    unfold landF outF
    rw [e]
    split
    · -- it stands
      generalize hs1 : land1 (nI t) v (fun _ => nI 0, nI 0, nI 0) = s1
      have g1 : s1.1 t = v := by rw [← hs1]; simp [land1, upd, e]
      have g2 : s1.2.1 = nI 0 ||| (nI 1 <<< (nI t &&& 31)) := by rw [← hs1]; rfl
      generalize v - fLoss (w.2 0 t) (w.2 1 t) = v2
      have h1 : (gaU w (n - 1 - P t) (P t) v2 s1).1 t = v := by
        rw [gaU_got w t _ _ _ _ (fun d hd => ?_), g1]
        obtain ⟨a1, a2, a3⟩ := hA (P t + 1 + d) (by omega)
        rw [a1, nI_clamp (by omega)]
        intro z
        rw [z] at a3
        omega
      have h2 := gaU_hr w (n - 1 - P t) (P t) v2 s1
      generalize gaU w (n - 1 - P t) (P t) v2 s1 = s2 at h1 h2 ⊢
      obtain ⟨x1, x2, x3⟩ := s2
      simp only [land1, e] at h1 h2 ⊢
      rw [upd_same h1]
      have h3 : x2 ||| (nI 1 <<< (nI t &&& 31)) = x2 := by
        rw [g2] at h2
        rw [← h2]
        have e0 : ∀ y : Int32, nI 0 ||| y = y := fun y => by rw [nI_0]; exact Int32.zero_or
        rw [e0, Int32.or_comm, ← Int32.or_assoc, Int32.or_self]
      rw [h3]
    · rw [gaU_0 _ _ _ _ _ (by decide)]
      simp only [vic1, land1, e]
      rw [upd_same (by simp [upd]), Int32.or_assoc, Int32.or_self]
theorem nI_p1 (j : Nat) : nI (j + 1) - nI 1 = nI j := by rw [pk_sub (by omega)]; rfl
theorem hasM_n {s : Int32} {t : Nat} (h : t < 32) (c : ¬ bI (hasM s (nI t)) = 0) : hasB s (nI t) = true := by rw [← hasM_B s t h]; exact bI_n0.mp c
theorem hasM_z {s : Int32} {t : Nat} (h : t < 32) (c : bI (hasM s (nI t)) = 0) : ¬ hasB s (nI t) = true := by rw [← hasM_B s t h, bI_0.mp c]; decide
theorem l_along_up {m : MS} {n : Nat} {A P : Nat → Nat} {fv ov : Int32} {K : Option Value → AH → Prop} (hm : mOk m n A P) : ∀ (k j : Nat) (v : Int32) (s : S3) (x6 : Option Value), j + 1 + k = n → K none (mC m (gaU (mW m) k j v s).1 (gaU (mW m) k j v s).2.2) → am_E i_X12_goesAlong 6 [some (.ref 0), some (.int fv), some (.int (nI 1)), some (.int ov), some (.int (nI j)), some (.int v), x6] [] (mC m s.1 s.2.2) K := by
  have hn8 := hm.2.1
  intro k
  induction k with
  | zero =>
    intro j v s x6 hj hK
    refine b_X12_goesAlong [6] ?_
    conv => whnf
    refine ⟨fun c8 => ?_, fun c8 => ?_⟩
    · refine b_X12_goesAlong [6] ?_
      conv => whnf
      exact hK
    · conv => whnf
      refine ⟨fun c12 => absurd c12 (by decide), fun c12 => ?_⟩
      conv => whnf
      refine b_X12_goesAlong [6] ?_
      conv => whnf
      refine ⟨fun c34 => absurd c34 (by rw [nI_add]; exact nI_pos (by omega)), fun c34 => ?_⟩
      conv => whnf
      refine ⟨fun c43 => ?_, fun c43 => absurd (by rw [nI_add, hm.1]; exact nI_le (by omega) (by omega)) c43⟩
      refine b_X12_goesAlong [6] ?_
      conv => whnf
      exact hK
  | succ k ih =>
    intro j v s x6 hj hK
    have e : (nI (j + 1)).toNatClampNeg = j + 1 := nI_clamp (by omega)
    obtain ⟨h1, h2, h3⟩ := hm.2.2.1 (j + 1) (by omega)
    have hq : (mW m).2 3 (j + 1) = nI (A (j + 1)) := h1
    refine b_X12_goesAlong [6] ?_
    conv => whnf
    refine ⟨fun c8 => ?_, fun c8 => ?_⟩
    · refine b_X12_goesAlong [6] ?_
      conv => whnf
      rw [gaU, if_pos c8] at hK; exact hK
    · conv => whnf
      refine ⟨fun c12 => absurd c12 (by decide), fun c12 => ?_⟩
      conv => whnf
      refine b_X12_goesAlong [6] ?_
      conv => whnf
      refine ⟨fun c34 => absurd c34 (by rw [nI_add]; exact nI_pos (by omega)), fun c34 => ?_⟩
      conv => whnf
      refine ⟨fun c43 => absurd c43 (by rw [nI_add, hm.1]; exact nI_ge (by omega) (by omega)), fun c43 => ?_⟩
      conv => whnf
      refine m_has ?_
      refine b_X12_goesAlong [6] ?_
      conv => whnf
      refine ⟨fun c55 => ?_, fun c55 => ?_⟩
      · conv => whnf
        refine ⟨(by rw [nI_add]; exact vp_in_nI (by omega) (by decide)), ?_⟩
        conv => whnf
        rw [nI_add j 1, e, h1]
        refine m_has ?_
        refine b_X12_goesAlong [6] ?_
        conv => whnf
        refine ⟨fun c72 => ?_, fun c72 => ?_⟩
        · refine b_X12_goesAlong [6] ?_
          conv => whnf
          refine m_lands (s := s) (p := j + 1) (a := A (j + 1)) (by omega) h1 (by omega) ?_
          refine b_X12_goesAlong [6] ?_
          conv => whnf
          rw [gaU, if_neg c8, if_neg (show ¬ hasB ((mW m).1 2) (nI j) = true from hasM_z (by omega) c55)] at hK
          rw [hq, if_neg (show ¬ hasB ((mW m).1 1) (nI (A (j + 1))) = true from hasM_z (by omega) c72)] at hK
          exact ih (j + 1) _ (landF (mW m) (nI (A (j + 1))) v s) _ (by omega) hK
        · conv => whnf
          rw [gaU, if_neg c8, if_neg (show ¬ hasB ((mW m).1 2) (nI j) = true from hasM_z (by omega) c55)] at hK
          rw [hq, if_pos (show hasB ((mW m).1 1) (nI (A (j + 1))) = true from hasM_n (by omega) c72)] at hK; exact hK
      · refine b_X12_goesAlong [6] ?_
        conv => whnf
        rw [gaU, if_neg c8, if_pos (show hasB ((mW m).1 2) (nI j) = true from hasM_n (by omega) c55)] at hK; exact hK
theorem l_along_dn {m : MS} {n : Nat} {A P : Nat → Nat} {fv ov : Int32} {K : Option Value → AH → Prop} (hm : mOk m n A P) : ∀ (j : Nat) (v : Int32) (s : S3) (x6 : Option Value), j < n → K none (mC m (gaD (mW m) j v s).1 (gaD (mW m) j v s).2.2) → am_E i_X12_goesAlong 6 [some (.ref 0), some (.int fv), some (.int (Int32.ofInt (-1))), some (.int ov), some (.int (nI j)), some (.int v), x6] [] (mC m s.1 s.2.2) K := by
  have hn8 := hm.2.1
  intro j
  induction j with
  | zero =>
    intro v s x6 hj hK
    refine b_X12_goesAlong [6] ?_
    conv => whnf
    refine ⟨fun c8 => ?_, fun c8 => ?_⟩
    · refine b_X12_goesAlong [6] ?_
      conv => whnf
      exact hK
    · conv => whnf
      refine ⟨fun c12 => ?_, fun c12 => absurd (by decide) c12⟩
      refine b_X12_goesAlong [6] ?_
      conv => whnf
      refine ⟨fun c34 => ?_, fun c34 => absurd (by decide) c34⟩
      refine b_X12_goesAlong [6] ?_
      conv => whnf
      exact hK
  | succ j ih =>
    intro v s x6 hj hK
    have e : (nI j).toNatClampNeg = j := nI_clamp (by omega)
    obtain ⟨h1, h2, h3⟩ := hm.2.2.1 j (by omega)
    have hq : (mW m).2 3 j = nI (A j) := h1
    refine b_X12_goesAlong [6] ?_
    conv => whnf
    refine ⟨fun c8 => ?_, fun c8 => ?_⟩
    · refine b_X12_goesAlong [6] ?_
      conv => whnf
      rw [gaD, if_pos c8] at hK; exact hK
    · conv => whnf
      refine ⟨fun c12 => ?_, fun c12 => absurd (by decide) c12⟩
      refine b_X12_goesAlong [6] ?_
      conv => whnf
      refine ⟨fun c34 => absurd c34 (by rw [nI_m1]; exact nI_pos (by omega)), fun c34 => ?_⟩
      conv => whnf
      refine ⟨fun c43 => absurd c43 (by rw [nI_m1, hm.1]; exact nI_ge (by omega) (by omega)), fun c43 => ?_⟩
      conv => whnf
      rw [nI_p1]
      refine m_has ?_
      refine b_X12_goesAlong [6] ?_
      conv => whnf
      refine ⟨fun c55 => ?_, fun c55 => ?_⟩
      · conv => whnf
        refine ⟨(by rw [nI_m1]; exact vp_in_nI (by omega) (by decide)), ?_⟩
        conv => whnf
        rw [nI_m1, e, h1]
        refine m_has ?_
        refine b_X12_goesAlong [6] ?_
        conv => whnf
        refine ⟨fun c72 => ?_, fun c72 => ?_⟩
        · refine b_X12_goesAlong [6] ?_
          conv => whnf
          refine m_lands (s := s) (p := j) (a := A (j)) (by omega) h1 (by omega) ?_
          refine b_X12_goesAlong [6] ?_
          conv => whnf
          rw [gaD, if_neg c8, if_neg (show ¬ hasB ((mW m).1 2) (nI j) = true from hasM_z (by omega) c55)] at hK
          rw [hq, if_neg (show ¬ hasB ((mW m).1 1) (nI (A (j))) = true from hasM_z (by omega) c72)] at hK
          exact ih _ (landF (mW m) (nI (A (j))) v s) _ (by omega) hK
        · conv => whnf
          rw [gaD, if_neg c8, if_neg (show ¬ hasB ((mW m).1 2) (nI j) = true from hasM_z (by omega) c55)] at hK
          rw [hq, if_pos (show hasB ((mW m).1 1) (nI (A (j))) = true from hasM_n (by omega) c72)] at hK; exact hK
      · refine b_X12_goesAlong [6] ?_
        conv => whnf
        rw [gaD, if_neg c8, if_pos (show hasB ((mW m).1 2) (nI j) = true from hasM_n (by omega) c55)] at hK; exact hK
theorem m_along_up {m : MS} {n j : Nat} {A P : Nat → Nat} {v : Int32} {s : S3} {K : Option Value → AH → Prop} (hm : mOk m n A P) (hj : j < n) (hK : K none (mC m (gaU (mW m) (n - 1 - j) j v s).1 (gaU (mW m) (n - 1 - j) j v s).2.2)) : am_M i_X12_goesAlong [.ref 0, .int (nI j), .int (nI 1), .int v] (mC m s.1 s.2.2) K := by
  refine e_X12_goesAlong [6] ?_
  conv => whnf
  exact l_along_up hm _ j v s _ (by omega) hK
theorem m_along_dn {m : MS} {n j : Nat} {A P : Nat → Nat} {v : Int32} {s : S3} {K : Option Value → AH → Prop} (hm : mOk m n A P) (hj : j < n) (hK : K none (mC m (gaD (mW m) j v s).1 (gaD (mW m) j v s).2.2)) : am_M i_X12_goesAlong [.ref 0, .int (nI j), .int (Int32.ofInt (-1)), .int v] (mC m s.1 s.2.2) K := by
  refine e_X12_goesAlong [6] ?_
  conv => whnf
  exact l_along_dn hm j v s _ hj hK
theorem l_fb_zero {m : MS} {tv v b : Int32} {g : Nat → Int32} {x4 : Option Value} {K : Option Value → AH → Prop} (hk : am_E i_X12_findBlow 21 [some (.ref 0), some (.int tv), some (.int v), some (.int (nI 8)), x4] [] (mC m (zpF 8 g) b) K) : ∀ (k i : Nat), i + k = 8 → am_E i_X12_findBlow 2 [some (.ref 0), some (.int tv), some (.int v), some (.int (nI i)), x4] [] (mC m (zpF i g) b) K := by
  intro k
  induction k with
  | zero =>
    intro i hi
    obtain rfl : i = 8 := by omega
    refine b_X12_findBlow [2, 21] ?_
    conv => whnf
    refine ⟨fun c5 => ?_, fun c5 => absurd (by decide) c5⟩
    exact hk
  | succ k ih =>
    intro i hi
    have e : (nI i).toNatClampNeg = i := nI_clamp (by omega)
    refine b_X12_findBlow [2, 21] ?_
    conv => whnf
    refine ⟨fun c5 => absurd c5 (nI_ge (by omega) (by omega)), fun c5 => ?_⟩
    conv => whnf
    refine ⟨(vp_in_nI (by omega) (by decide)), ?_⟩
    conv => whnf
    rw [e]
    have h2 := ih (i + 1) (by omega)
    rw [← zpF_s, ← nI_add i 1] at h2
    exact h2
theorem landF_ag {w : WS} {t v : Int32} {s s2 : S3} (h : ag8 s.1 s2.1) (h2 : s.2 = s2.2) : ag8 (landF w t v s).1 (landF w t v s2).1 ∧ (landF w t v s).2 = (landF w t v s2).2 := by
  have hl : ag8 (land1 t v s).1 (land1 t v s2).1 := by
    intro i hi
    simp only [land1, upd]
    split
    · rfl
    · exact h i hi
  have hl2 : (land1 t v s).2 = (land1 t v s2).2 := by simp only [land1, h2]
  unfold landF
  split
  · exact ⟨hl, hl2⟩
  · exact ⟨hl, by simp only [vic1, hl2]⟩
theorem gaU_ag (w : WS) : ∀ (k j : Nat) (v : Int32) (s s2 : S3), ag8 s.1 s2.1 → s.2 = s2.2 → ag8 (gaU w k j v s).1 (gaU w k j v s2).1 ∧ (gaU w k j v s).2 = (gaU w k j v s2).2 := by
  intro k
  induction k with
  | zero => intro j v s s2 h h2; exact ⟨h, h2⟩
  | succ k ih =>
    intro j v s s2 h h2
    simp only [gaU]
    split
    · exact ⟨h, h2⟩
    · split
      · exact ⟨h, h2⟩
      · split
        · exact ⟨h, h2⟩
        · have := landF_ag (w := w) (t := w.2 3 (j + 1)) (v := v) h h2
          exact ih _ _ _ _ this.1 this.2
theorem gaD_ag (w : WS) : ∀ (j : Nat) (v : Int32) (s s2 : S3), ag8 s.1 s2.1 → s.2 = s2.2 → ag8 (gaD w j v s).1 (gaD w j v s2).1 ∧ (gaD w j v s).2 = (gaD w j v s2).2 := by
  intro k
  induction k with
  | zero => intro v s s2 h h2; exact ⟨h, h2⟩
  | succ k ih =>
    intro v s s2 h h2
    simp only [gaD]
    split
    · exact ⟨h, h2⟩
    · split
      · exact ⟨h, h2⟩
      · split
        · exact ⟨h, h2⟩
        · have := landF_ag (w := w) (t := w.2 3 k) (v := v) h h2
          exact ih _ _ _ this.1 this.2
/-- the model's blow -/
theorem m_findBlow {m : MS} {n t : Nat} {A P : Nat → Nat} {v b : Int32} {g : Nat → Int32} {K : Option Value → AH → Prop} (hm : mOk m n A P) (ht : t < n) (hv : ¬ v ≤ 0) (hK : ∀ g2, ag8 g2 (blw (mW m) n (P t) v).1 → K none (mC m g2 (blw (mW m) n (P t) v).2.2)) : am_M i_X12_findBlow [.ref 0, .int (nI t), .int v] (mC m g b) K := by
  have hn8 := hm.2.1
  obtain ⟨hp, hap⟩ := hm.2.2.2 t ht
  obtain ⟨q1, q2, q3⟩ := hm.2.2.1 (P t) hp
  rw [hap] at q1
  have hz : ag8 (zpF 8 g) (fun _ => nI 0) := fun i hi => by simp only [zpF]; rw [if_pos hi]
  have hb := blw_ga (w := mW m) (t := t) (v := v) hn8 (fun j hj => hm.2.2.1 j hj) ⟨hp, hap⟩ hv
  have g0 : g = zpF 0 g := (zpF_0 g).symm
  rw [g0]
  refine e_X12_findBlow [2, 21] ?_
  conv => whnf
  refine l_fb_zero ?_ 8 0 rfl
  refine b_X12_findBlow [] ?_
  conv => whnf
  refine m_has ?_
  refine b_X12_findBlow [] ?_
  conv => whnf
  refine ⟨fun c34 => ?_, fun c34 => ?_⟩
  · refine b_X12_findBlow [] ?_
    conv => whnf
    refine m_placeOf (m := m) (g := zpF 8 g) (b := nI 0) hm ht ?_
    refine b_X12_findBlow [] ?_
    conv => whnf
    refine m_lands (m := m) (s := (zpF 8 g, nI 0, nI 0)) (a := t) (by omega) q1 (by omega) ?_
    refine b_X12_findBlow [] ?_
    conv => whnf
    refine m_along_up (m := m) (s := landF (mW m) (nI t) v (zpF 8 g, nI 0, nI 0)) hm hp ?_
    refine b_X12_findBlow [] ?_
    conv => whnf
    refine m_along_dn (m := m) (s := gaU (mW m) (n - 1 - P t) (P t) (outF (mW m) (nI t) v) (landF (mW m) (nI t) v (zpF 8 g, nI 0, nI 0))) hm hp ?_
    refine b_X12_findBlow [] ?_
    conv => whnf
    rw [if_neg (show ¬ hasB ((mW m).1 1) (nI t) = true from hasM_z (by omega) c34)] at hb
    have h1 := landF_ag (w := mW m) (t := nI t) (v := v) (s := (zpF 8 g, nI 0, nI 0)) (s2 := (fun _ => nI 0, nI 0, nI 0)) hz rfl
    have h2 := gaU_ag (mW m) (n - 1 - P t) (P t) (outF (mW m) (nI t) v) _ _ h1.1 h1.2
    have h3 := gaD_ag (mW m) (P t) (outF (mW m) (nI t) v) _ _ h2.1 h2.2
    rw [← hb] at h3
    have h4 := hK _ h3.1
    rw [← h3.2] at h4
    exact h4
  · conv => whnf
    rw [if_pos (show hasB ((mW m).1 1) (nI t) = true from hasM_n (by omega) c34)] at hb
    rw [hb] at hK
    exact hK _ hz
