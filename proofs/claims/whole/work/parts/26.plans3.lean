/-! SPECS: plans that sum up -/
def allI (w : WS) (n : Nat) (P : Nat → Nat) (v : Int32) (j : Nat) (t : Nat) (x : Int32) : Int32 := x + (blw w n (P t) v).1 j
def addG (n i : Nat) (f g : Nat → Int32) (j : Nat) : Int32 := if i ≤ j ∧ j < n then f j + g j else f j
theorem addG_s {n i j : Nat} {f g : Nat → Int32} (hi : i < n) : addG n (i + 1) (upd f i (f i + g i)) g j = addG n i f g j := by
  simp only [addG, upd]
  by_cases e1 : j = i
  · subst e1; rw [if_neg (by omega), if_pos rfl, if_pos (by omega)]
  · rw [if_neg e1]
    by_cases e2 : i ≤ j ∧ j < n
    · rw [if_pos e2, if_pos (by omega)]
    · rw [if_neg e2, if_neg (by omega)]
theorem l_hadd {md : WS} {b : Int32 × Int32} {un : Nat → Int32} {w : WS} {n : Nat} {v : Int32} {A P : Nat → Nat} {s : S3} {t : Nat} {K : Option Value → AH → Prop} (hw : wOk w n A P) : ∀ (k i : Nat) (hd : Nat → Int32), i + k = n → (∀ hd2, (∀ j, j < 8 → hd2 j = addG n i hd s.1 j) → am_E i_X6_hearAll 79 [some (.ref 0), some (.ref 12), some (.int v), some (.int (nI t)), some (.int (nI n))] [] (pC s md (b) hd2 un w) K) → am_E i_X6_hearAll 44 [some (.ref 0), some (.ref 12), some (.int v), some (.int (nI t)), some (.int (nI i))] [] (pC s md (b) hd un w) K := by
  intro k
  induction k with
  | zero =>
    intro i hd hi hK
    obtain rfl : i = n := by omega
    refine b_X6_hearAll [44, 79] ?_
    conv => whnf
    refine ⟨fun c50 => ?_, fun c50 => absurd (by rw [hw.1]; exact nI_le (Nat.le_refl _) (by have := hw.2.1; omega)) c50⟩
    exact hK hd (fun j _ => by rw [addG, if_neg (by omega)])
  | succ k ih =>
    intro i hd hi hK
    have e : (nI i).toNatClampNeg = i := nI_clamp (by have := hw.2.1; omega)
    refine b_X6_hearAll [44, 79] ?_
    conv => whnf
    refine ⟨fun c50 => absurd c50 (by rw [hw.1]; exact nI_ge (by omega) (by have := hw.2.1; omega)), fun c50 => ?_⟩
    conv => whnf
    refine ⟨(vI8 hw.2.1 (by omega)), ?_⟩
    conv => whnf
    refine ⟨(vI8 hw.2.1 (by omega)), ?_⟩
    conv => whnf
    refine ⟨(vI8 hw.2.1 (by omega)), ?_⟩
    conv => whnf
    rw [e]
    have h2 := ih (i + 1) (upd hd i (hd i + s.1 i)) (by omega) (fun hd2 h => hK hd2 (fun j hj => (h j hj).trans (addG_s (by omega))))
    rw [← nI_add i 1] at h2
    exact h2
theorem l_hall {md : WS} {b : Int32 × Int32} {un : Nat → Int32} {w : WS} {n : Nat} {v : Int32} {A P : Nat → Nat} {K : Option Value → AH → Prop} (hw : wOk w n A P) : ∀ (k i : Nat) (s : S3) (hd : Nat → Int32), i + k = n → (∀ s2 hd2, (∀ j, j < n → hd2 j = itr (allI w n P v j) k i (hd j)) → K none (pC s2 md (b) hd2 un w)) → am_E i_X6_hearAll 23 [some (.ref 0), some (.ref 12), some (.int v), some (.int (nI i)), none] [] (pC s md (b) hd un w) K := by
  intro k
  induction k with
  | zero =>
    intro i s hd hi hK
    obtain rfl : i = n := by omega
    refine b_X6_hearAll [23, 44] ?_
    conv => whnf
    refine ⟨fun c28 => ?_, fun c28 => absurd (by rw [hw.1]; exact nI_le (Nat.le_refl _) (by have := hw.2.1; omega)) c28⟩
    refine b_X6_hearAll [23, 44] ?_
    conv => whnf
    exact hK s hd (fun j _ => rfl)
  | succ k ih =>
    intro i s hd hi hK
    refine b_X6_hearAll [23, 44] ?_
    conv => whnf
    refine ⟨fun c28 => absurd c28 (by rw [hw.1]; exact nI_ge (by omega) (by have := hw.2.1; omega)), fun c28 => ?_⟩
    conv => whnf
    refine f_strike (s := s) (w := w) [1, 2, 12, 13, 14, 15, 16, 17] hw (by omega) rfl rfl rfl ⟨rfl, rfl, rfl, rfl, rfl, rfl, rfl, rfl, trivial⟩ (fun s2 hs2 => ?_)
    conv => whnf
    refine b_X6_hearAll [23, 44] ?_
    conv => whnf
    refine l_hadd (s := s2) (t := i) hw n 0 hd (by omega) (fun hd2 hh => ?_)
    refine b_X6_hearAll [23] ?_
    conv => whnf
    have h2 := ih (i + 1) s2 hd2 (by omega) (fun s3 hd3 h => hK s3 hd3 (fun j hj => by have := hw.2.1; rw [h j hj, hh j (by omega), addG, if_pos (by omega), hs2.1 j (by omega)]; rfl))
    rw [← nI_add i 1] at h2
    exact am_wk (by exact ⟨Or.inr rfl, Or.inr rfl, Or.inr rfl, Or.inr rfl, Or.inl rfl, trivial⟩) h2
theorem l_hz {md : WS} {b : Int32 × Int32} {un : Nat → Int32} {w : WS} {n : Nat} {v : Int32} {A P : Nat → Nat} {s : S3} {K : Option Value → AH → Prop} (hw : wOk w n A P) {hd : Nat → Int32} (hk : ∀ hd2, (∀ j, j < 8 → hd2 j = nI 0) → am_E i_X6_hearAll 21 [some (.ref 0), some (.ref 12), some (.int v), some (.int (nI 8)), none] [] (pC s md (b) hd2 un w) K) : ∀ (k i : Nat), i + k = 8 → am_E i_X6_hearAll 2 [some (.ref 0), some (.ref 12), some (.int v), some (.int (nI i)), none] [] (pC s md (b) (zpF i hd) un w) K := by
  intro k
  induction k with
  | zero =>
    intro i hi
    obtain rfl : i = 8 := by omega
    refine b_X6_hearAll [2, 21] ?_
    conv => whnf
    refine ⟨fun c5 => ?_, fun c5 => absurd (by decide) c5⟩
    exact hk _ (fun j hj => by rw [zpF, if_pos hj])
  | succ k ih =>
    intro i hi
    have e : (nI i).toNatClampNeg = i := nI_clamp (by omega)
    refine b_X6_hearAll [2, 21] ?_
    conv => whnf
    refine ⟨fun c5 => absurd c5 (nI_ge (by omega) (by omega)), fun c5 => ?_⟩
    conv => whnf
    refine ⟨(vI8 (Nat.le_refl 8) (by omega)), ?_⟩
    conv => whnf
    rw [e]
    have h2 := ih (i + 1) (by omega)
    rw [← zpF_s, ← nI_add i 1] at h2
    exact h2
theorem s_hall {md : WS} {b : Int32 × Int32} {un : Nat → Int32} {w : WS} {n : Nat} {v : Int32} {A P : Nat → Nat} {hd : Nat → Int32} {s : S3} (hw : wOk w n A P) {K : Option Value → AH → Prop} (hK : ∀ s2 hd2, (∀ j, j < n → hd2 j = itr (allI w n P v j) n 0 (nI 0)) → K none (pC s2 md (b) hd2 un w)) : am_M i_X6_hearAll [.ref 0, .ref 12, .int v] (pC s md (b) hd un w) K := by
  refine e_X6_hearAll [2] ?_
  conv => whnf
  rw [show hd = zpF 0 hd from (zpF_0 hd).symm]
  refine l_hz (s := s) (hd := hd) hw (fun hd2 hh => ?_) 8 0 rfl
  refine b_X6_hearAll [23] ?_
  conv => whnf
  exact l_hall hw n 0 s hd2 (by omega) (fun s3 hd3 h => hK s3 hd3 (fun j hj => by have := hw.2.1; rw [h j hj, hh j (by omega)]))
def ahdI (w : WS) (n : Nat) (P : Nat → Nat) (v : Int32) (j : Nat) (x : Int32) : Int32 := x + itr (allI w n P v j) n 0 (nI 0)
def qutI (w : WS) (n : Nat) (P : Nat → Nat) (v : Int32) (j : Nat) (b : Int32 × Int32) : Int32 × Int32 := fLeast b (nI j) (itr (allI w n P v j) n 0 (nI 0))
theorem l_ahd {md : WS} {b : Int32 × Int32} {un : Nat → Int32} {w : WS} {n : Nat} {v : Int32} {A P : Nat → Nat} {hd : Nat → Int32} {s : S3} {K : Option Value → AH → Prop} (hw : wOk w n A P) (hh : ∀ j, j < n → hd j = itr (allI w n P v j) n 0 (nI 0)) : ∀ (k i : Nat) (x : Int32), i + k = n → (K (some (.int (itr (ahdI w n P v) k i x))) (pC s md (b) hd un w)) → am_E i_X6_allHeard 11 [some (.ref 0), some (.ref 12), some (.int v), some (.int x), some (.int (nI i))] [] (pC s md (b) hd un w) K := by
  intro k
  induction k with
  | zero =>
    intro i x hi hK
    obtain rfl : i = n := by omega
    refine b_X6_allHeard [11] ?_
    conv => whnf
    refine ⟨fun c17 => ?_, fun c17 => absurd (by rw [hw.1]; exact nI_le (Nat.le_refl _) (by have := hw.2.1; omega)) c17⟩
    refine b_X6_allHeard [11] ?_
    conv => whnf
    exact hK
  | succ k ih =>
    intro i x hi hK
    have e : (nI i).toNatClampNeg = i := nI_clamp (by have := hw.2.1; omega)
    refine b_X6_allHeard [11] ?_
    conv => whnf
    refine ⟨fun c17 => absurd c17 (by rw [hw.1]; exact nI_ge (by omega) (by have := hw.2.1; omega)), fun c17 => ?_⟩
    conv => whnf
    refine ⟨(vI8 hw.2.1 (by omega)), ?_⟩
    conv => whnf
    rw [e, hh i (by omega)]
    have h2 := ih (i + 1) _ (by omega) hK
    rw [← nI_add i 1] at h2
    exact h2
theorem s_ahd {md : WS} {b : Int32 × Int32} {un : Nat → Int32} {w : WS} {n : Nat} {v : Int32} {A P : Nat → Nat} {hd : Nat → Int32} {s : S3} (hw : wOk w n A P) {K : Option Value → AH → Prop} (hK : ∀ s2 hd2, K (some (.int (itr (ahdI w n P v) n 0 (nI 0)))) (pC s2 md (b) hd2 un w)) : am_M i_X6_allHeard [.ref 0, .ref 12, .int v] (pC s md (b) hd un w) K := by
  refine e_X6_allHeard [11] ?_
  conv => whnf
  refine s_hall hw (fun s2 hd2 hh => ?_)
  refine b_X6_allHeard [11] ?_
  conv => whnf
  exact l_ahd hw hh n 0 (nI 0) (by omega) (hK s2 hd2)
theorem l_qut {md : WS} {un : Nat → Int32} {w : WS} {n : Nat} {v : Int32} {A P : Nat → Nat} {hd : Nat → Int32} {s : S3} {K : Option Value → AH → Prop} (hw : wOk w n A P) (hh : ∀ j, j < n → hd j = itr (allI w n P v j) n 0 (nI 0)) : ∀ (k i : Nat) (b : Int32 × Int32), i + k = n → (K (some (.ref 9)) (pC s md (itr (qutI w n P v) k i b) hd un w)) → am_E i_X6_quietest 15 [some (.ref 0), some (.ref 12), some (.int v), some (.int (nI i))] [] (pC s md (b) hd un w) K := by
  intro k
  induction k with
  | zero =>
    intro i b hi hK
    obtain rfl : i = n := by omega
    refine b_X6_quietest [15] ?_
    conv => whnf
    refine ⟨fun c20 => ?_, fun c20 => absurd (by rw [hw.1]; exact nI_le (Nat.le_refl _) (by have := hw.2.1; omega)) c20⟩
    refine b_X6_quietest [15] ?_
    conv => whnf
    exact hK
  | succ k ih =>
    intro i b hi hK
    have e : (nI i).toNatClampNeg = i := nI_clamp (by have := hw.2.1; omega)
    refine b_X6_quietest [15] ?_
    conv => whnf
    refine ⟨fun c20 => absurd c20 (by rw [hw.1]; exact nI_ge (by omega) (by have := hw.2.1; omega)), fun c20 => ?_⟩
    conv => whnf
    refine ⟨(vI8 hw.2.1 (by omega)), ?_⟩
    conv => whnf
    rw [e, hh i (by omega)]
    refine f_offL (b := b) rfl ?_
    conv => whnf
    refine b_X6_quietest [15] ?_
    conv => whnf
    have h2 := ih (i + 1) _ (by omega) hK
    rw [← nI_add i 1] at h2
    exact h2
theorem s_qut {md : WS} {b : Int32 × Int32} {un : Nat → Int32} {w : WS} {n : Nat} {v : Int32} {A P : Nat → Nat} {hd : Nat → Int32} {s : S3} (hw : wOk w n A P) {K : Option Value → AH → Prop} (hK : ∀ s2 hd2, K (some (.ref 9)) (pC s2 md (itr (qutI w n P v) n 0 nob) hd2 un w)) : am_M i_X6_quietest [.ref 0, .ref 12, .int v] (pC s md (b) hd un w) K := by
  refine e_X6_quietest [15] ?_
  conv => whnf
  refine s_hall hw (fun s2 hd2 hh => ?_)
  refine b_X6_quietest [15] ?_
  conv => whnf
  refine f_none (b := b) rfl ?_
  conv => whnf
  refine b_X6_quietest [15] ?_
  conv => whnf
  exact l_qut hw hh n 0 nob (by omega) (hK s2 hd2)
def muI (w : WS) (n : Nat) (P : Nat → Nat) (v : Int32) (t : Nat) (j : Nat) (x : Int32) : Int32 := if fCut (blw w n (P t) v).2.1 (nI j) = true then (if hasB (blw w n (P j) v).2.1 (nI t) = true then x + nI 1 else x) else x
def muO (w : WS) (n : Nat) (P : Nat → Nat) (v : Int32) (t : Nat) (x : Int32) : Int32 := itr (muI w n P v t) t 0 x
theorem l_muI {md : WS} {b : Int32 × Int32} {un : Nat → Int32} {w : WS} {n : Nat} {v : Int32} {A P : Nat → Nat} {t : Nat} {hd : Nat → Int32} {s : S3} {K : Option Value → AH → Prop} (hw : wOk w n A P) (ht : t < n) (hs : s.2 = (blw w n (P t) v).2) (hh : ∀ j, j < t → hd j = (blw w n (P j) v).2.1) : ∀ (k i : Nat) (x : Int32), i + k = t → (am_E i_X6_mutualTwos 85 [some (.ref 0), some (.ref 12), some (.int v), some (.int (itr (muI w n P v t) k i x)), some (.int (nI t)), some (.int (nI t))] [] (pC s md (b) hd un w) K) → am_E i_X6_mutualTwos 42 [some (.ref 0), some (.ref 12), some (.int v), some (.int x), some (.int (nI t)), some (.int (nI i))] [] (pC s md (b) hd un w) K := by
  intro k
  induction k with
  | zero =>
    intro i x hi hK
    obtain rfl : i = t := by omega
    refine b_X6_mutualTwos [42, 85] ?_
    conv => whnf
    refine ⟨fun c46 => ?_, fun c46 => absurd (nI_le (Nat.le_refl _) (by have := hw.2.1; omega)) c46⟩
    exact hK
  | succ k ih =>
    intro i x hi hK
    have e : (nI i).toNatClampNeg = i := nI_clamp (by have := hw.2.1; omega)
    refine b_X6_mutualTwos [42, 85] ?_
    conv => whnf
    refine ⟨fun c46 => absurd c46 (nI_ge (by omega) (by have := hw.2.1; omega)), fun c46 => ?_⟩
    conv => whnf
    refine s_isHeardBy (s := s) ⟨rfl, rfl⟩ ?_
    refine b_X6_mutualTwos [42, 85] ?_
    conv => whnf
    refine ⟨fun c58 => ?_, fun c58 => ?_⟩
    · refine b_X6_mutualTwos [42, 85] ?_
      conv => whnf
      have e4 : muI w n P v t i x = x := by rw [hs] at c58; rw [muI, if_neg (by rw [bI_0.mp c58]; decide)]
      simp only [itr, e4] at hK
      have h2 := ih (i + 1) x (by omega) hK
      rw [← nI_add i 1] at h2
      exact h2
    · conv => whnf
      refine ⟨(vI8 hw.2.1 (by omega)), ?_⟩
      conv => whnf
      rw [e, hh i (by omega)]
      refine ⟨fun c73 => ?_, fun c73 => ?_⟩
      · refine b_X6_mutualTwos [42, 85] ?_
        conv => whnf
        have e4 : muI w n P v t i x = x := by rw [hs] at c58; rw [muI, if_pos (bI_n0.mp c58), if_neg (by rw [hasB_f c73]; decide)]
        simp only [itr, e4] at hK
        have h2 := ih (i + 1) x (by omega) hK
        rw [← nI_add i 1] at h2
        exact h2
      · conv => whnf
        have e4 : muI w n P v t i x = x + nI 1 := by rw [hs] at c58; rw [muI, if_pos (bI_n0.mp c58), if_pos (hasB_t c73)]
        simp only [itr, e4] at hK
        have h2 := ih (i + 1) _ (by omega) hK
        rw [← nI_add i 1] at h2
        exact h2
theorem l_muO {md : WS} {b : Int32 × Int32} {un : Nat → Int32} {w : WS} {n : Nat} {v : Int32} {A P : Nat → Nat} {K : Option Value → AH → Prop} (hw : wOk w n A P) : ∀ (k i : Nat) (x : Int32) (hd : Nat → Int32) (s : S3), i + k = n → ((∀ j, j < i → hd j = (blw w n (P j) v).2.1) ∧ ∀ hd2 s2, K (some (.int (itr (muO w n P v) k i x))) (pC s2 md (b) hd2 un w)) → am_E i_X6_mutualTwos 5 [some (.ref 0), some (.ref 12), some (.int v), some (.int x), some (.int (nI i)), none] [] (pC s md (b) hd un w) K := by
  intro k
  induction k with
  | zero =>
    intro i x hd s hi hK
    obtain rfl : i = n := by omega
    refine b_X6_mutualTwos [5, 42] ?_
    conv => whnf
    refine ⟨fun c11 => ?_, fun c11 => absurd (by rw [hw.1]; exact nI_le (Nat.le_refl _) (by have := hw.2.1; omega)) c11⟩
    refine b_X6_mutualTwos [5, 42] ?_
    conv => whnf
    exact hK.2 hd s
  | succ k ih =>
    intro i x hd s hi hK
    have e : (nI i).toNatClampNeg = i := nI_clamp (by have := hw.2.1; omega)
    refine b_X6_mutualTwos [5, 42] ?_
    conv => whnf
    refine ⟨fun c11 => absurd c11 (by rw [hw.1]; exact nI_ge (by omega) (by have := hw.2.1; omega)), fun c11 => ?_⟩
    conv => whnf
    refine f_strike (s := s) (w := w) [1, 2, 12, 13, 14, 15, 16, 17] hw (by omega) rfl rfl rfl ⟨rfl, rfl, rfl, rfl, rfl, rfl, rfl, rfl, trivial⟩ (fun s2 hs2 => ?_)
    conv => whnf
    refine b_X6_mutualTwos [5, 42] ?_
    conv => whnf
    refine ⟨(vI8 hw.2.1 (by omega)), ?_⟩
    conv => whnf
    rw [e]
    have hh : ∀ j, j < i + 1 → upd hd i s2.2.1 j = (blw w n (P j) v).2.1 := by
      intro j hj
      simp only [upd]
      by_cases e1 : j = i
      · subst e1; rw [if_pos rfl, hs2.2]
      · rw [if_neg e1]; exact hK.1 j (by omega)
    refine l_muI hw (by omega) hs2.2 (fun j hj => hh j (by omega)) i 0 x (by omega) ?_
    refine b_X6_mutualTwos [5] ?_
    conv => whnf
    have h2 := ih (i + 1) (muO w n P v i x) _ s2 (by omega) ⟨hh, hK.2⟩
    rw [← nI_add i 1] at h2
    exact am_wk (by exact ⟨Or.inr rfl, Or.inr rfl, Or.inr rfl, Or.inr rfl, Or.inr rfl, Or.inl rfl, trivial⟩) h2
theorem s_mut {md : WS} {b : Int32 × Int32} {un : Nat → Int32} {w : WS} {n : Nat} {v : Int32} {A P : Nat → Nat} {hd : Nat → Int32} {s : S3} (hw : wOk w n A P) {K : Option Value → AH → Prop} (hK : ∀ hd2 s2, K (some (.int (itr (muO w n P v) n 0 (nI 0)))) (pC s2 md (b) hd2 un w)) : am_M i_X6_mutualTwos [.ref 0, .ref 12, .int v] (pC s md (b) hd un w) K := by
  refine e_X6_mutualTwos [5] ?_
  conv => whnf
  exact l_muO hw n 0 (nI 0) hd s (by omega) ⟨fun j hj => by omega, hK⟩
