/-! SPECS: the shortest walk -/
def keyS (w : WS) (sg : Int32) (x : Int32) : Int32 := sg * w.2 2 x.toNatClampNeg
def insF (w : WS) (sg : Int32) (i : Nat) : Nat → (Nat → Int32) → (Nat → Int32)
  | 0, a => upd a 0 (nI i)
  | j + 1, a => if keyS w sg (a j) ≤ keyS w sg (nI i) then upd a (j + 1) (nI i) else insF w sg i j (upd a (j + 1) (a j))
theorem insF_in {w : WS} {sg : Int32} {i N : Nat} (hi : i < 8) : ∀ (j : Nat) (a : Nat → Int32), j < N → (∀ k, k < N → k ≠ j → vp_in (a k) 8) → ∀ k, k < N → vp_in (insF w sg i j a k) 8 := by
  intro j
  induction j with
  | zero =>
    intro a hj h k hk
    rw [insF]; simp only [upd]
    split
    · exact vI8 (Nat.le_refl 8) hi
    · rename_i e; exact h k hk e
  | succ j ih =>
    intro a hj h k hk
    rw [insF]
    split
    · simp only [upd]
      split
      · exact vI8 (Nat.le_refl 8) hi
      · rename_i e; exact h k hk e
    · refine ih _ (by omega) (fun q hq hqj => ?_) k hk
      simp only [upd]
      split
      · exact h j (by omega) (by omega)
      · rename_i e; exact h q hq e
def srtI (w : WS) (sg : Int32) (i : Nat) (a : Nat → Int32) : Nat → Int32 := insF w sg i i a
def ahdF (f g : Nat → Int32) : Nat → Nat → Bool
  | 0, _ => false
  | k + 1, i => if f i = g i then ahdF f g k (i + 1) else decide (f i < g i)
theorem l_insf {w md : WS} {n : Nat} {sg : Int32} {A P : Nat → Nat} {g : Nat → Int32} {s : S3} {i : Nat} {K : Option Value → AH → Prop} (hw : wOk w n A P) (hi : i < n) : ∀ (j : Nat) (a : Nat → Int32), (∀ k, k < j → vp_in (a k) 8) → j ≤ i → am_E i_X4_sortByFarm 67 [some (.ref 11), some (.int sg), some (.ref 9), some (.int (nI i)), none, none] [] (oC s md (insF w sg i j a) g w) K → am_E i_X4_sortByFarm 23 [some (.ref 11), some (.int sg), some (.ref 9), some (.int (nI i)), some (.int (nI j)), some (.int (sg * w.2 2 i))] [] (oC s md (a) g w) K := by
  have h8 := hw.2.1
  have ei : (nI i).toNatClampNeg = i := nI_clamp (by omega)
  intro j
  induction j with
  | zero =>
    intro a ha hj hK
    have ej : (nI 0).toNatClampNeg = 0 := nI_clamp (by omega)
    refine b_X4_sortByFarm [23, 67] ?_
    conv => whnf
    refine ⟨fun c25 => ?_, fun c25 => absurd (by decide) c25⟩
    refine b_X4_sortByFarm [23, 67] ?_
    conv => whnf
    refine ⟨(vI8 hw.2.1 (by omega)), ?_⟩
    conv => whnf
    exact am_wk (by exact ⟨Or.inr rfl, Or.inr rfl, Or.inr rfl, Or.inr rfl, Or.inl rfl, Or.inl rfl, trivial⟩) hK
  | succ j ih =>
    intro a ha hj hK
    have ej : (nI j).toNatClampNeg = j := nI_clamp (by omega)
    have ej1 : (nI (j + 1)).toNatClampNeg = j + 1 := nI_clamp (by omega)
    refine b_X4_sortByFarm [23, 67] ?_
    conv => whnf
    refine ⟨fun c25 => absurd c25 (nI_nle (by omega) (by omega)), fun c25 => ?_⟩
    conv => whnf
    refine ⟨(by rw [nI_p1]; exact vI8 (Nat.le_refl 8) (by omega)), ?_⟩
    conv => whnf
    rw [nI_p1, ej]
    refine ⟨(ha j (by omega)), ?_⟩
    conv => whnf
    refine ⟨fun c43 => ?_, fun c43 => ?_⟩
    · refine b_X4_sortByFarm [23, 67] ?_
      conv => whnf
      refine ⟨(vI8 hw.2.1 (by omega)), ?_⟩
      conv => whnf
      rw [ej1]
      rw [insF, if_pos (by rw [keyS, keyS, ei]; exact c43)] at hK
      exact am_wk (by exact ⟨Or.inr rfl, Or.inr rfl, Or.inr rfl, Or.inr rfl, Or.inl rfl, Or.inl rfl, trivial⟩) hK
    · conv => whnf
      refine ⟨(by rw [nI_p1]; exact vI8 (Nat.le_refl 8) (by omega)), ?_⟩
      conv => whnf
      rw [nI_p1, ej]
      refine ⟨(vI8 hw.2.1 (by omega)), ?_⟩
      conv => whnf
      rw [ej1, am_inc_m1, nI_m1]
      rw [insF, if_neg (by rw [keyS, keyS, ei]; exact c43)] at hK
      exact ih _ (fun k hk => by simp only [upd]; rw [if_neg (by omega)]; exact ha k (by omega)) (by omega) hK
theorem l_srtf {w md : WS} {n : Nat} {sg : Int32} {A P : Nat → Nat} {g : Nat → Int32} {s : S3} {K : Option Value → AH → Prop} (hw : wOk w n A P) : ∀ (k i : Nat) (a : Nat → Int32), i + k = n → ((∀ j, j < i → vp_in (a j) 8) ∧ ∀ a2, a2 = itr (srtI w sg) k i a → (∀ j, j < n → vp_in (a2 j) 8) → K none (oC s md (a2) g w)) → am_E i_X4_sortByFarm 2 [some (.ref 11), some (.int sg), some (.ref 9), some (.int (nI i)), none, none] [] (oC s md (a) g w) K := by
  intro k
  induction k with
  | zero =>
    intro i a hi hK
    obtain rfl : i = n := by omega
    refine b_X4_sortByFarm [2, 23] ?_
    conv => whnf
    refine ⟨fun c7 => ?_, fun c7 => absurd (by rw [hw.1]; exact nI_le (Nat.le_refl _) (by have := hw.2.1; omega)) c7⟩
    refine b_X4_sortByFarm [2, 23] ?_
    conv => whnf
    exact hK.2 a rfl hK.1
  | succ k ih =>
    intro i a hi hK
    have e : (nI i).toNatClampNeg = i := nI_clamp (by have := hw.2.1; omega)
    refine b_X4_sortByFarm [2, 23] ?_
    conv => whnf
    refine ⟨fun c7 => absurd c7 (by rw [hw.1]; exact nI_ge (by omega) (by have := hw.2.1; omega)), fun c7 => ?_⟩
    conv => whnf
    refine ⟨(vI8 hw.2.1 (by omega)), ?_⟩
    conv => whnf
    rw [e]
    refine am_wk (by exact ⟨Or.inr rfl, Or.inr rfl, Or.inr rfl, Or.inr rfl, Or.inr rfl, Or.inr rfl, trivial⟩) (l_insf (md := md) (s := s) hw (by omega) i a hK.1 (Nat.le_refl _) ?_)
    refine b_X4_sortByFarm [2] ?_
    conv => whnf
    have h2 := ih (i + 1) (srtI w sg i a) (by omega) ⟨fun j hj => insF_in (N := i + 1) (by have := hw.2.1; omega) i a (by omega) (fun q hq hqi => hK.1 q (by omega)) j hj, hK.2⟩
    rw [← nI_add i 1] at h2
    exact am_wk (by exact ⟨Or.inr rfl, Or.inr rfl, Or.inr rfl, Or.inr rfl, Or.inl rfl, Or.inl rfl, trivial⟩) h2
theorem s_srtf {w md : WS} {n : Nat} {sg : Int32} {A P : Nat → Nat} {g : Nat → Int32} {s : S3} {a : Nat → Int32} (hw : wOk w n A P) {K : Option Value → AH → Prop} (hK : ∀ a2, a2 = itr (srtI w sg) n 0 a → (∀ j, j < n → vp_in (a2 j) 8) → K none (oC s md (a2) g w)) : am_M i_X4_sortByFarm [.ref 11, .int sg, .ref 9] (oC s md (a) g w) K := by
  refine e_X4_sortByFarm [2] ?_
  conv => whnf
  exact l_srtf hw n 0 a (by omega) ⟨fun j hj => by omega, hK⟩
theorem l_insg {w md : WS} {n : Nat} {sg : Int32} {A P : Nat → Nat} {f : Nat → Int32} {s : S3} {i : Nat} {K : Option Value → AH → Prop} (hw : wOk w n A P) (hi : i < n) : ∀ (j : Nat) (a : Nat → Int32), (∀ k, k < j → vp_in (a k) 8) → j ≤ i → am_E i_X4_sortByFarm 67 [some (.ref 11), some (.int sg), some (.ref 10), some (.int (nI i)), none, none] [] (oC s md f (insF w sg i j a) w) K → am_E i_X4_sortByFarm 23 [some (.ref 11), some (.int sg), some (.ref 10), some (.int (nI i)), some (.int (nI j)), some (.int (sg * w.2 2 i))] [] (oC s md f (a) w) K := by
  have h8 := hw.2.1
  have ei : (nI i).toNatClampNeg = i := nI_clamp (by omega)
  intro j
  induction j with
  | zero =>
    intro a ha hj hK
    have ej : (nI 0).toNatClampNeg = 0 := nI_clamp (by omega)
    refine b_X4_sortByFarm [23, 67] ?_
    conv => whnf
    refine ⟨fun c25 => ?_, fun c25 => absurd (by decide) c25⟩
    refine b_X4_sortByFarm [23, 67] ?_
    conv => whnf
    refine ⟨(vI8 hw.2.1 (by omega)), ?_⟩
    conv => whnf
    exact am_wk (by exact ⟨Or.inr rfl, Or.inr rfl, Or.inr rfl, Or.inr rfl, Or.inl rfl, Or.inl rfl, trivial⟩) hK
  | succ j ih =>
    intro a ha hj hK
    have ej : (nI j).toNatClampNeg = j := nI_clamp (by omega)
    have ej1 : (nI (j + 1)).toNatClampNeg = j + 1 := nI_clamp (by omega)
    refine b_X4_sortByFarm [23, 67] ?_
    conv => whnf
    refine ⟨fun c25 => absurd c25 (nI_nle (by omega) (by omega)), fun c25 => ?_⟩
    conv => whnf
    refine ⟨(by rw [nI_p1]; exact vI8 (Nat.le_refl 8) (by omega)), ?_⟩
    conv => whnf
    rw [nI_p1, ej]
    refine ⟨(ha j (by omega)), ?_⟩
    conv => whnf
    refine ⟨fun c43 => ?_, fun c43 => ?_⟩
    · refine b_X4_sortByFarm [23, 67] ?_
      conv => whnf
      refine ⟨(vI8 hw.2.1 (by omega)), ?_⟩
      conv => whnf
      rw [ej1]
      rw [insF, if_pos (by rw [keyS, keyS, ei]; exact c43)] at hK
      exact am_wk (by exact ⟨Or.inr rfl, Or.inr rfl, Or.inr rfl, Or.inr rfl, Or.inl rfl, Or.inl rfl, trivial⟩) hK
    · conv => whnf
      refine ⟨(by rw [nI_p1]; exact vI8 (Nat.le_refl 8) (by omega)), ?_⟩
      conv => whnf
      rw [nI_p1, ej]
      refine ⟨(vI8 hw.2.1 (by omega)), ?_⟩
      conv => whnf
      rw [ej1, am_inc_m1, nI_m1]
      rw [insF, if_neg (by rw [keyS, keyS, ei]; exact c43)] at hK
      exact ih _ (fun k hk => by simp only [upd]; rw [if_neg (by omega)]; exact ha k (by omega)) (by omega) hK
theorem l_srtg {w md : WS} {n : Nat} {sg : Int32} {A P : Nat → Nat} {f : Nat → Int32} {s : S3} {K : Option Value → AH → Prop} (hw : wOk w n A P) : ∀ (k i : Nat) (a : Nat → Int32), i + k = n → ((∀ j, j < i → vp_in (a j) 8) ∧ ∀ a2, a2 = itr (srtI w sg) k i a → (∀ j, j < n → vp_in (a2 j) 8) → K none (oC s md f (a2) w)) → am_E i_X4_sortByFarm 2 [some (.ref 11), some (.int sg), some (.ref 10), some (.int (nI i)), none, none] [] (oC s md f (a) w) K := by
  intro k
  induction k with
  | zero =>
    intro i a hi hK
    obtain rfl : i = n := by omega
    refine b_X4_sortByFarm [2, 23] ?_
    conv => whnf
    refine ⟨fun c7 => ?_, fun c7 => absurd (by rw [hw.1]; exact nI_le (Nat.le_refl _) (by have := hw.2.1; omega)) c7⟩
    refine b_X4_sortByFarm [2, 23] ?_
    conv => whnf
    exact hK.2 a rfl hK.1
  | succ k ih =>
    intro i a hi hK
    have e : (nI i).toNatClampNeg = i := nI_clamp (by have := hw.2.1; omega)
    refine b_X4_sortByFarm [2, 23] ?_
    conv => whnf
    refine ⟨fun c7 => absurd c7 (by rw [hw.1]; exact nI_ge (by omega) (by have := hw.2.1; omega)), fun c7 => ?_⟩
    conv => whnf
    refine ⟨(vI8 hw.2.1 (by omega)), ?_⟩
    conv => whnf
    rw [e]
    refine am_wk (by exact ⟨Or.inr rfl, Or.inr rfl, Or.inr rfl, Or.inr rfl, Or.inr rfl, Or.inr rfl, trivial⟩) (l_insg (md := md) (s := s) hw (by omega) i a hK.1 (Nat.le_refl _) ?_)
    refine b_X4_sortByFarm [2] ?_
    conv => whnf
    have h2 := ih (i + 1) (srtI w sg i a) (by omega) ⟨fun j hj => insF_in (N := i + 1) (by have := hw.2.1; omega) i a (by omega) (fun q hq hqi => hK.1 q (by omega)) j hj, hK.2⟩
    rw [← nI_add i 1] at h2
    exact am_wk (by exact ⟨Or.inr rfl, Or.inr rfl, Or.inr rfl, Or.inr rfl, Or.inl rfl, Or.inl rfl, trivial⟩) h2
theorem s_srtg {w md : WS} {n : Nat} {sg : Int32} {A P : Nat → Nat} {f : Nat → Int32} {s : S3} {a : Nat → Int32} (hw : wOk w n A P) {K : Option Value → AH → Prop} (hK : ∀ a2, a2 = itr (srtI w sg) n 0 a → (∀ j, j < n → vp_in (a2 j) 8) → K none (oC s md f (a2) w)) : am_M i_X4_sortByFarm [.ref 11, .int sg, .ref 10] (oC s md f (a) w) K := by
  refine e_X4_sortByFarm [2] ?_
  conv => whnf
  exact l_srtg hw n 0 a (by omega) ⟨fun j hj => by omega, hK⟩
theorem l_ahd_ {h : AH} {ra rb n : Nat} {f g : Nat → Int32} {K : Option Value → AH → Prop} (ha : nth h ra = some (.inl (8, f))) (hb : nth h rb = some (.inl (8, g))) (hn : n ≤ 8) : ∀ (k i : Nat), i + k = n → K (some (.int (bI (ahdF f g k i)))) h → am_E i_X4_isAhead 2 [some (.ref ra), some (.ref rb), some (.int (nI n)), some (.int (nI i))] [] h K := by
  intro k
  induction k with
  | zero =>
    intro i hi hK
    obtain rfl : i = n := by omega
    refine b_X4_isAhead [2] ?_
    conv => whnf
    refine ⟨fun c4 => ?_, fun c4 => absurd (nI_le (Nat.le_refl _) (by omega)) c4⟩
    refine b_X4_isAhead [2] ?_
    conv => whnf
    refine ⟨(by first | exact Or.inl nI_0 | exact Or.inr nI_one | assumption), ?_⟩
    exact hK
  | succ k ih =>
    intro i hi hK
    have e : (nI i).toNatClampNeg = i := nI_clamp (by omega)
    refine b_X4_isAhead [2] ?_
    conv => whnf
    refine ⟨fun c4 => absurd c4 (nI_ge (by omega) (by omega)), fun c4 => ?_⟩
    conv => whnf
    refine am_hgn ha ?_
    conv => whnf
    refine ⟨(vI8 hn (by omega)), ?_⟩
    conv => whnf
    try rw [e]
    refine am_hgn hb ?_
    conv => whnf
    refine ⟨(vI8 hn (by omega)), ?_⟩
    conv => whnf
    try rw [e]
    refine ⟨fun c13 => ?_, fun c13 => ?_⟩
    · refine b_X4_isAhead [2] ?_
      conv => whnf
      rw [ahdF, if_pos c13] at hK
      have h2 := ih (i + 1) (by omega) hK
      rw [← nI_add i 1] at h2
      exact h2
    · conv => whnf
      refine am_hgn ha ?_
      conv => whnf
      refine ⟨(vI8 hn (by omega)), ?_⟩
      conv => whnf
      try rw [e]
      refine am_hgn hb ?_
      conv => whnf
      refine ⟨(vI8 hn (by omega)), ?_⟩
      conv => whnf
      try rw [e]
      refine ⟨fun c22 => ?_, fun c22 => ?_⟩
      · refine b_X4_isAhead [2] ?_
        conv => whnf
        refine ⟨(by first | exact Or.inl nI_0 | exact Or.inr nI_one | assumption), ?_⟩
        rw [ahdF, if_neg c13, decide_eq_false (by rw [Int32.not_lt]; exact c22)] at hK
        exact hK
      · conv => whnf
        refine b_X4_isAhead [2] ?_
        conv => whnf
        refine ⟨(by first | exact Or.inl nI_0 | exact Or.inr nI_one | assumption), ?_⟩
        rw [ahdF, if_neg c13, decide_eq_true (by rw [← Int32.not_le]; exact c22)] at hK
        exact hK
theorem s_ahd_ {h : AH} {ra rb n : Nat} {f g : Nat → Int32} {x : Int32} (ha : nth h ra = some (.inl (8, f))) (hb : nth h rb = some (.inl (8, g))) (hn : n ≤ 8) (hx : x = nI n) {K : Option Value → AH → Prop} (hK : K (some (.int (bI (ahdF f g n 0)))) h) : am_M i_X4_isAhead [.ref ra, .ref rb, .int x] h K := by
  subst hx
  refine e_X4_isAhead [2] ?_
  conv => whnf
  exact l_ahd_ ha hb hn n 0 (by omega) hK
