/-! SPECS: the shortest walk -/
def keyS (w : WS) (sg : Int32) (x : Int32) : Int32 := sg * w.2 2 x.toNatClampNeg
def insF (w : WS) (sg : Int32) (i : Nat) : Nat → (Nat → Int32) → (Nat → Int32)
  | 0, a => upd a 0 (nI i)
  | j + 1, a => if keyS w sg (a j) ≤ keyS w sg (nI i) then upd a (j + 1) (nI i) else insF w sg i j (upd a (j + 1) (a j))
theorem insF_in {w : WS} {sg : Int32} {i N : Nat} (hi : i < 8) : ∀ (j : Nat) (a : Nat → Int32), j < N → (∀ k, k < N → k ≠ j → vp_in (a k) 8) → ∀ k, k < N → vp_in (insF w sg i j a k) 8 := by
  intro j
  induction j with
  | zero =>
    intro a hj h k hk
    rw [insF]; simp only [upd]
    split
    · exact vI8 (Nat.le_refl 8) hi
    · rename_i e; exact h k hk e
  | succ j ih =>
    intro a hj h k hk
    rw [insF]
    split
    · simp only [upd]
      split
      · exact vI8 (Nat.le_refl 8) hi
      · rename_i e; exact h k hk e
    · refine ih _ (by omega) (fun q hq hqj => ?_) k hk
      simp only [upd]
      split
      · exact h j (by omega) (by omega)
      · rename_i e; exact h q hq e
def srtI (w : WS) (sg : Int32) (i : Nat) (a : Nat → Int32) : Nat → Int32 := insF w sg i i a
def ahdF (f g : Nat → Int32) : Nat → Nat → Bool
  | 0, _ => false
  | k + 1, i => if f i = g i then ahdF f g k (i + 1) else decide (f i < g i)
theorem l_insf {w md : WS} {n : Nat} {sg : Int32} {A P : Nat → Nat} {g : Nat → Int32} {s : S3} {i : Nat} {K : Option Value → AH → Prop} (hw : wOk w n A P) (hi : i < n) : ∀ (j : Nat) (a : Nat → Int32), (∀ k, k < j → vp_in (a k) 8) → j ≤ i → am_E i_X4_sortByFarm 67 [some (.ref 11), some (.int sg), some (.ref 9), some (.int (nI i)), none, none] [] (oC s md (insF w sg i j a) g w) K → am_E i_X4_sortByFarm 23 [some (.ref 11), some (.int sg), some (.ref 9), some (.int (nI i)), some (.int (nI j)), some (.int (sg * w.2 2 i))] [] (oC s md (a) g w) K := by
  have h8 := hw.2.1
  have ei : (nI i).toNatClampNeg = i := nI_clamp (by omega)
  intro j
  induction j with
  | zero =>
    intro a ha hj hK
    have ej : (nI 0).toNatClampNeg = 0 := nI_clamp (by omega)
    refine b_X4_sortByFarm [23, 67] ?_
    conv => whnf
    refine ⟨fun c25 => ?_, fun c25 => absurd (by decide) c25⟩
    refine b_X4_sortByFarm [23, 67] ?_
    conv => whnf
    refine ⟨(vI8 hw.2.1 (by omega)), ?_⟩
    conv => whnf
    exact am_wk (by exact ⟨Or.inr rfl, Or.inr rfl, Or.inr rfl, Or.inr rfl, Or.inl rfl, Or.inl rfl, trivial⟩) hK
  | succ j ih =>
    intro a ha hj hK
    have ej : (nI j).toNatClampNeg = j := nI_clamp (by omega)
    have ej1 : (nI (j + 1)).toNatClampNeg = j + 1 := nI_clamp (by omega)
    refine b_X4_sortByFarm [23, 67] ?_
    conv => whnf
    refine ⟨fun c25 => absurd c25 (nI_nle (by omega) (by omega)), fun c25 => ?_⟩
    conv => whnf
    refine ⟨(by rw [nI_p1]; exact vI8 (Nat.le_refl 8) (by omega)), ?_⟩
    conv => whnf
    rw [nI_p1, ej]
    refine ⟨(ha j (by omega)), ?_⟩
    conv => whnf
    refine ⟨fun c43 => ?_, fun c43 => ?_⟩
    · refine b_X4_sortByFarm [23, 67] ?_
      conv => whnf
      refine ⟨(vI8 hw.2.1 (by omega)), ?_⟩
      conv => whnf
      rw [ej1]
      rw [insF, if_pos (by rw [keyS, keyS, ei]; exact c43)] at hK
      exact am_wk (by exact ⟨Or.inr rfl, Or.inr rfl, Or.inr rfl, Or.inr rfl, Or.inl rfl, Or.inl rfl, trivial⟩) hK
    · conv => whnf
      refine ⟨(by rw [nI_p1]; exact vI8 (Nat.le_refl 8) (by omega)), ?_⟩
      conv => whnf
      rw [nI_p1, ej]
      refine ⟨(vI8 hw.2.1 (by omega)), ?_⟩
      conv => whnf
      rw [ej1, am_inc_m1, nI_m1]
      rw [insF, if_neg (by rw [keyS, keyS, ei]; exact c43)] at hK
      exact ih _ (fun k hk => by simp only [upd]; rw [if_neg (by omega)]; exact ha k (by omega)) (by omega) hK
theorem l_insg {w md : WS} {n : Nat} {sg : Int32} {A P : Nat → Nat} {f : Nat → Int32} {s : S3} {i : Nat} {K : Option Value → AH → Prop} (hw : wOk w n A P) (hi : i < n) : ∀ (j : Nat) (a : Nat → Int32), (∀ k, k < j → vp_in (a k) 8) → j ≤ i → am_E i_X4_sortByFarm 67 [some (.ref 11), some (.int sg), some (.ref 10), some (.int (nI i)), none, none] [] (oC s md f (insF w sg i j a) w) K → am_E i_X4_sortByFarm 23 [some (.ref 11), some (.int sg), some (.ref 10), some (.int (nI i)), some (.int (nI j)), some (.int (sg * w.2 2 i))] [] (oC s md f (a) w) K := by
  have h8 := hw.2.1
  have ei : (nI i).toNatClampNeg = i := nI_clamp (by omega)
  intro j
  induction j with
  | zero =>
    intro a ha hj hK
    have ej : (nI 0).toNatClampNeg = 0 := nI_clamp (by omega)
    refine b_X4_sortByFarm [23, 67] ?_
    conv => whnf
    refine ⟨fun c25 => ?_, fun c25 => absurd (by decide) c25⟩
    refine b_X4_sortByFarm [23, 67] ?_
    conv => whnf
    refine ⟨(vI8 hw.2.1 (by omega)), ?_⟩
    conv => whnf
    exact am_wk (by exact ⟨Or.inr rfl, Or.inr rfl, Or.inr rfl, Or.inr rfl, Or.inl rfl, Or.inl rfl, trivial⟩) hK
  | succ j ih =>
    intro a ha hj hK
    have ej : (nI j).toNatClampNeg = j := nI_clamp (by omega)
    have ej1 : (nI (j + 1)).toNatClampNeg = j + 1 := nI_clamp (by omega)
    refine b_X4_sortByFarm [23, 67] ?_
    conv => whnf
    refine ⟨fun c25 => absurd c25 (nI_nle (by omega) (by omega)), fun c25 => ?_⟩
    conv => whnf
    refine ⟨(by rw [nI_p1]; exact vI8 (Nat.le_refl 8) (by omega)), ?_⟩
    conv => whnf
    rw [nI_p1, ej]
    refine ⟨(ha j (by omega)), ?_⟩
    conv => whnf
    refine ⟨fun c43 => ?_, fun c43 => ?_⟩
    · refine b_X4_sortByFarm [23, 67] ?_
      conv => whnf
      refine ⟨(vI8 hw.2.1 (by omega)), ?_⟩
      conv => whnf
      rw [ej1]
      rw [insF, if_pos (by rw [keyS, keyS, ei]; exact c43)] at hK
      exact am_wk (by exact ⟨Or.inr rfl, Or.inr rfl, Or.inr rfl, Or.inr rfl, Or.inl rfl, Or.inl rfl, trivial⟩) hK
    · conv => whnf
      refine ⟨(by rw [nI_p1]; exact vI8 (Nat.le_refl 8) (by omega)), ?_⟩
      conv => whnf
      rw [nI_p1, ej]
      refine ⟨(vI8 hw.2.1 (by omega)), ?_⟩
      conv => whnf
      rw [ej1, am_inc_m1, nI_m1]
      rw [insF, if_neg (by rw [keyS, keyS, ei]; exact c43)] at hK
      exact ih _ (fun k hk => by simp only [upd]; rw [if_neg (by omega)]; exact ha k (by omega)) (by omega) hK
