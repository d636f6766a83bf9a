/-! SPECS: plans, that leave the wire as it is -/
def maxI (a b : Int32) : Int32 := if a < b then b else a
def minI (a b : Int32) : Int32 := if b < a then b else a
def pO : AC := .inr (.inr (5, [.ref 1, .ref 3, .ref 9, .ref 10, .ref 11]))
def pC (s : S3) (md : WS) (b : Int32 × Int32) (hd un : Nat → Int32) (w : WS) : AH := pO :: (uC 1 s ++ (wC 3 md ++ (bO b :: .inl (8, hd) :: .inl (64, un) :: wC 12 w)))
theorem itr_cg {σ : Type} {f g : Nat → σ → σ} : ∀ (k i : Nat) (s : σ), (∀ j, i ≤ j → j < i + k → ∀ s, f j s = g j s) → itr f k i s = itr g k i s := by
  intro k
  induction k with
  | zero => intro i s _; rfl
  | succ k ih =>
    intro i s h
    rw [itr, itr, h i (Nat.le_refl _) (by omega), ih (i + 1) _ (fun j h1 h2 => h j (by omega) (by omega))]
theorem lkT {n : Nat} (h : n ≤ 8) : nI n - nI 1 ≤ nI (n - 1) := by
  have : ∀ n, n < 9 → nI n - nI 1 ≤ nI (n - 1) := by decide +kernel
  exact this n (by omega)
theorem lkF {n i : Nat} (h : n ≤ 8) (hi : i + 1 < n) : ¬ nI n - nI 1 ≤ nI i := by
  have : ∀ n, n < 9 → ∀ i, i < 9 → i + 1 < n → ¬ nI n - nI 1 ≤ nI i := by decide +kernel
  exact this n (by omega) i (by omega) hi
def wstI (w : WS) (n : Nat) (P : Nat → Nat) (v : Int32) (i : Nat) (b : Int32 × Int32) : Int32 × Int32 := if (blw w n (P i) v).2.2 = 0 then b else fMost b (nI i) (fBc (blw w n (P i) v).2.2)
def mbrI (w : WS) (n : Nat) (P : Nat → Nat) (v : Int32) (i : Nat) (x : Int32) : Int32 := maxI x (fBc (blw w n (P i) v).2.2)
def mheI (w : WS) (n : Nat) (P : Nat → Nat) (v : Int32) (i : Nat) (b : Int32 × Int32) : Int32 × Int32 := if hasB (w.1 1) (nI i) = true then b else fMost b (nI i) (fBc (blw w n (P i) v).2.1)
def spaI (w : WS) (n : Nat) (P : Nat → Nat) (v : Int32) (i : Nat) (x : Int32) : Int32 := x &&& (butI (blw w n (P i) v).2.2 (nI i) ^^^ Int32.ofInt (-1))
def nob : Int32 × Int32 := (Int32.ofInt (-9), Int32.ofInt (-9))
theorem l_wst {md : WS} {hd un : Nat → Int32} {w : WS} {n : Nat} {v : Int32} {A P : Nat → Nat} {K : Option Value → AH → Prop} (hw : wOk w n A P) : ∀ (k i : Nat) (s : S3) (b : Int32 × Int32), i + k = n → (∀ s2, K (some (.ref 9)) (pC s2 md (itr (wstI w n P v) k i b) hd un w)) → am_E i_X6_worstPlace 9 [some (.ref 0), some (.ref 12), some (.int v), some (.int (nI i))] [] (pC s md b hd un w) K := by
  intro k
  induction k with
  | zero =>
    intro i s b hi hK
    obtain rfl : i = n := by omega
    refine b_X6_worstPlace [9] ?_
    conv => whnf
    refine ⟨fun c14 => ?_, fun c14 => absurd (by rw [hw.1]; exact nI_le (Nat.le_refl _) (by have := hw.2.1; omega)) c14⟩
    refine b_X6_worstPlace [9] ?_
    conv => whnf
    exact hK s
  | succ k ih =>
    intro i s b hi hK
    refine b_X6_worstPlace [9] ?_
    conv => whnf
    refine ⟨fun c14 => absurd c14 (by rw [hw.1]; exact nI_ge (by omega) (by have := hw.2.1; omega)), fun c14 => ?_⟩
    conv => whnf
    refine f_strike (s := s) (w := w) [1, 2, 12, 13, 14, 15, 16, 17] hw (by omega) rfl rfl rfl ⟨rfl, rfl, rfl, rfl, rfl, rfl, rfl, rfl, trivial⟩ (fun s2 hs2 => ?_)
    conv => whnf
    refine b_X6_worstPlace [9] ?_
    conv => whnf
    refine ⟨fun c34 => ?_, fun c34 => ?_⟩
    · refine b_X6_worstPlace [9] ?_
      conv => whnf
      rw [hs2.2] at c34
      have e4 : wstI w n P v i b = b := by rw [wstI, if_pos c34]
      simp only [itr, e4] at hK
      have h2 := ih (i + 1) s2 b (by omega) hK
      rw [← nI_add i 1] at h2
      exact h2
    · conv => whnf
      refine s_brokenCount (s := s2) ⟨rfl, rfl⟩ ?_
      refine b_X6_worstPlace [9] ?_
      conv => whnf
      refine f_offM (b := b) rfl ?_
      conv => whnf
      refine b_X6_worstPlace [9] ?_
      conv => whnf
      have e4 : wstI w n P v i b = fMost b (nI i) (fBc s2.2.2) := by rw [hs2.2] at c34 ⊢; rw [wstI, if_neg c34]
      simp only [itr, e4] at hK
      have h2 := ih (i + 1) s2 _ (by omega) hK
      rw [← nI_add i 1] at h2
      exact h2
theorem s_wst {md : WS} {hd un : Nat → Int32} {w : WS} {n : Nat} {v : Int32} {A P : Nat → Nat} {s : S3} {b : Int32 × Int32} (hw : wOk w n A P) {K : Option Value → AH → Prop} (hK : ∀ s2, K (some (.ref 9)) (pC s2 md (itr (wstI w n P v) n 0 nob) hd un w)) : am_M i_X6_worstPlace [.ref 0, .ref 12, .int v] (pC s md b hd un w) K := by
  refine e_X6_worstPlace [9] ?_
  conv => whnf
  refine f_none (b := b) rfl ?_
  conv => whnf
  refine b_X6_worstPlace [9] ?_
  conv => whnf
  exact l_wst hw n 0 s nob (by omega) hK
theorem l_mbrw {md : WS} {hd un : Nat → Int32} {w : WS} {n : Nat} {v : Int32} {A P : Nat → Nat} {b : Int32 × Int32} {K : Option Value → AH → Prop} (hw : wOk w n A P) : ∀ (k i : Nat) (s : S3) (x : Int32), i + k = n → (∀ s2, K (some (.int (itr (mbrI w n P v) k i x))) (pC s2 md (b) hd un w)) → am_E i_X6_mostBroken 5 [some (.ref 0), some (.ref 12), some (.int v), some (.int x), some (.int (nI i))] [] (pC s md b hd un w) K := by
  intro k
  induction k with
  | zero =>
    intro i s x hi hK
    obtain rfl : i = n := by omega
    refine b_X6_mostBroken [5] ?_
    conv => whnf
    refine ⟨fun c11 => ?_, fun c11 => absurd (by rw [hw.1]; exact nI_le (Nat.le_refl _) (by have := hw.2.1; omega)) c11⟩
    refine b_X6_mostBroken [5] ?_
    conv => whnf
    exact hK s
  | succ k ih =>
    intro i s x hi hK
    refine b_X6_mostBroken [5] ?_
    conv => whnf
    refine ⟨fun c11 => absurd c11 (by rw [hw.1]; exact nI_ge (by omega) (by have := hw.2.1; omega)), fun c11 => ?_⟩
    conv => whnf
    refine f_strike (s := s) (w := w) [1, 2, 12, 13, 14, 15, 16, 17] hw (by omega) rfl rfl rfl ⟨rfl, rfl, rfl, rfl, rfl, rfl, rfl, rfl, trivial⟩ (fun s2 hs2 => ?_)
    conv => whnf
    refine b_X6_mostBroken [5] ?_
    conv => whnf
    refine s_brokenCount (s := s2) ⟨rfl, rfl⟩ ?_
    refine b_X6_mostBroken [5] ?_
    conv => whnf
    have e4 : mbrI w n P v i x = maxI x (fBc s2.2.2) := by rw [hs2.2]; rfl
    simp only [itr, e4] at hK
    have h2 := ih (i + 1) s2 _ (by omega) hK
    rw [← nI_add i 1] at h2
    exact h2
theorem s_mbrw {md : WS} {hd un : Nat → Int32} {w : WS} {n : Nat} {v : Int32} {A P : Nat → Nat} {b : Int32 × Int32} {s : S3} (hw : wOk w n A P) {K : Option Value → AH → Prop} (hK : ∀ s2, K (some (.int (itr (mbrI w n P v) n 0 (nI 0)))) (pC s2 md (b) hd un w)) : am_M i_X6_mostBroken [.ref 0, .ref 12, .int v] (pC s md b hd un w) K := by
  refine e_X6_mostBroken [5] ?_
  conv => whnf
  exact l_mbrw hw n 0 s (nI 0) (by omega) hK
theorem l_mbrm {md : WS} {hd un : Nat → Int32} {w : WS} {n : Nat} {v : Int32} {A P : Nat → Nat} {b : Int32 × Int32} {K : Option Value → AH → Prop} (hw : wOk md n A P) : ∀ (k i : Nat) (s : S3) (x : Int32), i + k = n → (∀ s2, K (some (.int (itr (mbrI md n P v) k i x))) (pC s2 md (b) hd un w)) → am_E i_X6_mostBroken 5 [some (.ref 0), some (.ref 3), some (.int v), some (.int x), some (.int (nI i))] [] (pC s md b hd un w) K := by
  intro k
  induction k with
  | zero =>
    intro i s x hi hK
    obtain rfl : i = n := by omega
    refine b_X6_mostBroken [5] ?_
    conv => whnf
    refine ⟨fun c11 => ?_, fun c11 => absurd (by rw [hw.1]; exact nI_le (Nat.le_refl _) (by have := hw.2.1; omega)) c11⟩
    refine b_X6_mostBroken [5] ?_
    conv => whnf
    exact hK s
  | succ k ih =>
    intro i s x hi hK
    refine b_X6_mostBroken [5] ?_
    conv => whnf
    refine ⟨fun c11 => absurd c11 (by rw [hw.1]; exact nI_ge (by omega) (by have := hw.2.1; omega)), fun c11 => ?_⟩
    conv => whnf
    refine f_strike (s := s) (w := md) [1, 2, 3, 4, 5, 6, 7, 8] hw (by omega) rfl rfl rfl ⟨rfl, rfl, rfl, rfl, rfl, rfl, rfl, rfl, trivial⟩ (fun s2 hs2 => ?_)
    conv => whnf
    refine b_X6_mostBroken [5] ?_
    conv => whnf
    refine s_brokenCount (s := s2) ⟨rfl, rfl⟩ ?_
    refine b_X6_mostBroken [5] ?_
    conv => whnf
    have e4 : mbrI md n P v i x = maxI x (fBc s2.2.2) := by rw [hs2.2]; rfl
    simp only [itr, e4] at hK
    have h2 := ih (i + 1) s2 _ (by omega) hK
    rw [← nI_add i 1] at h2
    exact h2
theorem s_mbrm {md : WS} {hd un : Nat → Int32} {w : WS} {n : Nat} {v : Int32} {A P : Nat → Nat} {b : Int32 × Int32} {s : S3} (hw : wOk md n A P) {K : Option Value → AH → Prop} (hK : ∀ s2, K (some (.int (itr (mbrI md n P v) n 0 (nI 0)))) (pC s2 md (b) hd un w)) : am_M i_X6_mostBroken [.ref 0, .ref 3, .int v] (pC s md b hd un w) K := by
  refine e_X6_mostBroken [5] ?_
  conv => whnf
  exact l_mbrm hw n 0 s (nI 0) (by omega) hK
theorem l_mhe {md : WS} {hd un : Nat → Int32} {w : WS} {n : Nat} {v : Int32} {A P : Nat → Nat} {K : Option Value → AH → Prop} (hw : wOk w n A P) : ∀ (k i : Nat) (s : S3) (b : Int32 × Int32), i + k = n → (∀ s2, K (some (.ref 9)) (pC s2 md (itr (mheI w n P v) k i b) hd un w)) → am_E i_X6_mostHeard 9 [some (.ref 0), some (.ref 12), some (.int v), some (.int (nI i))] [] (pC s md b hd un w) K := by
  intro k
  induction k with
  | zero =>
    intro i s b hi hK
    obtain rfl : i = n := by omega
    refine b_X6_mostHeard [9] ?_
    conv => whnf
    refine ⟨fun c14 => ?_, fun c14 => absurd (by rw [hw.1]; exact nI_le (Nat.le_refl _) (by have := hw.2.1; omega)) c14⟩
    refine b_X6_mostHeard [9] ?_
    conv => whnf
    exact hK s
  | succ k ih =>
    intro i s b hi hK
    refine b_X6_mostHeard [9] ?_
    conv => whnf
    refine ⟨fun c14 => absurd c14 (by rw [hw.1]; exact nI_ge (by omega) (by have := hw.2.1; omega)), fun c14 => ?_⟩
    conv => whnf
    refine s_isBroken rfl ?_
    refine b_X6_mostHeard [9] ?_
    conv => whnf
    refine ⟨fun c22 => ?_, fun c22 => ?_⟩
    · conv => whnf
      refine f_strike (s := s) (w := w) [1, 2, 12, 13, 14, 15, 16, 17] hw (by omega) rfl rfl rfl ⟨rfl, rfl, rfl, rfl, rfl, rfl, rfl, rfl, trivial⟩ (fun s2 hs2 => ?_)
      conv => whnf
      refine b_X6_mostHeard [9] ?_
      conv => whnf
      refine s_hearerCount (s := s2) ⟨rfl, rfl⟩ ?_
      refine b_X6_mostHeard [9] ?_
      conv => whnf
      refine f_offM (b := b) rfl ?_
      conv => whnf
      refine b_X6_mostHeard [9] ?_
      conv => whnf
      have e4 : mheI w n P v i b = fMost b (nI i) (fBc s2.2.1) := by rw [hs2.2]; rw [mheI, if_neg (by rw [bI_0.mp c22]; decide)]
      simp only [itr, e4] at hK
      have h2 := ih (i + 1) s2 _ (by omega) hK
      rw [← nI_add i 1] at h2
      exact h2
    · refine b_X6_mostHeard [9] ?_
      conv => whnf
      have e4 : mheI w n P v i b = b := by rw [mheI, if_pos (bI_n0.mp c22)]
      simp only [itr, e4] at hK
      have h2 := ih (i + 1) s b (by omega) hK
      rw [← nI_add i 1] at h2
      exact h2
theorem s_mhe {md : WS} {hd un : Nat → Int32} {w : WS} {n : Nat} {v : Int32} {A P : Nat → Nat} {s : S3} {b : Int32 × Int32} (hw : wOk w n A P) {K : Option Value → AH → Prop} (hK : ∀ s2, K (some (.ref 9)) (pC s2 md (itr (mheI w n P v) n 0 nob) hd un w)) : am_M i_X6_mostHeard [.ref 0, .ref 12, .int v] (pC s md b hd un w) K := by
  refine e_X6_mostHeard [9] ?_
  conv => whnf
  refine f_none (b := b) rfl ?_
  conv => whnf
  refine b_X6_mostHeard [9] ?_
  conv => whnf
  exact l_mhe hw n 0 s nob (by omega) hK
def lonI (w : WS) (i : Nat) (b : Int32 × Int32) : Int32 × Int32 := fMost b (nI i) (fWay w i)
theorem l_lon {md : WS} {hd un : Nat → Int32} {w : WS} {n : Nat} {A P : Nat → Nat} {s : S3} {K : Option Value → AH → Prop} (hw : wOk w n A P) : ∀ (k i : Nat) (b : Int32 × Int32), i + k = n - 1 → (K (some (.ref 9)) (pC s md (itr (lonI w) k i b) hd un w)) → am_E i_X6_longestLink 9 [some (.ref 0), some (.ref 12), some (.int (nI i))] [] (pC s md b hd un w) K := by
  intro k
  induction k with
  | zero =>
    intro i b hi hK
    obtain rfl : i = n - 1 := by omega
    refine b_X6_longestLink [9] ?_
    conv => whnf
    refine ⟨fun c16 => ?_, fun c16 => absurd (by rw [hw.1]; exact lkT hw.2.1) c16⟩
    refine b_X6_longestLink [9] ?_
    conv => whnf
    exact hK
  | succ k ih =>
    intro i b hi hK
    refine b_X6_longestLink [9] ?_
    conv => whnf
    refine ⟨fun c16 => absurd c16 (by rw [hw.1]; exact lkF hw.2.1 (by omega)), fun c16 => ?_⟩
    conv => whnf
    refine s_wayOver (n := n) (r := fun i => 13 + i) ⟨rfl, rfl, rfl, rfl, rfl, rfl⟩ hw.2.1 hw.at8 (by omega) ?_
    refine b_X6_longestLink [9] ?_
    conv => whnf
    refine f_offM (b := b) rfl ?_
    conv => whnf
    refine b_X6_longestLink [9] ?_
    conv => whnf
    have h2 := ih (i + 1) _ (by omega) hK
    rw [← nI_add i 1] at h2
    exact h2
theorem s_lon {md : WS} {hd un : Nat → Int32} {w : WS} {n : Nat} {A P : Nat → Nat} {s : S3} {b : Int32 × Int32} (hw : wOk w n A P) {K : Option Value → AH → Prop} (hK : K (some (.ref 9)) (pC s md (itr (lonI w) (n - 1) 0 nob) hd un w)) : am_M i_X6_longestLink [.ref 0, .ref 12] (pC s md b hd un w) K := by
  refine e_X6_longestLink [9] ?_
  conv => whnf
  refine f_none (b := b) rfl ?_
  conv => whnf
  refine b_X6_longestLink [9] ?_
  conv => whnf
  exact l_lon hw (n - 1) 0 nob (by omega) hK
theorem l_spa {md : WS} {hd un : Nat → Int32} {w : WS} {n : Nat} {v : Int32} {A P : Nat → Nat} {b : Int32 × Int32} {K : Option Value → AH → Prop} (hw : wOk w n A P) : ∀ (k i : Nat) (s : S3) (x : Int32), i + k = n → (∀ s2, K (some (.int (itr (spaI w n P v) k i x))) (pC s2 md (b) hd un w)) → am_E i_X6_sparedBits 8 [some (.ref 0), some (.ref 12), some (.int v), some (.int x), some (.int (nI i))] [] (pC s md b hd un w) K := by
  intro k
  induction k with
  | zero =>
    intro i s x hi hK
    obtain rfl : i = n := by omega
    refine b_X6_sparedBits [8] ?_
    conv => whnf
    refine ⟨fun c14 => ?_, fun c14 => absurd (by rw [hw.1]; exact nI_le (Nat.le_refl _) (by have := hw.2.1; omega)) c14⟩
    refine b_X6_sparedBits [8] ?_
    conv => whnf
    exact hK s
  | succ k ih =>
    intro i s x hi hK
    refine b_X6_sparedBits [8] ?_
    conv => whnf
    refine ⟨fun c14 => absurd c14 (by rw [hw.1]; exact nI_ge (by omega) (by have := hw.2.1; omega)), fun c14 => ?_⟩
    conv => whnf
    refine f_strike (s := s) (w := w) [1, 2, 12, 13, 14, 15, 16, 17] hw (by omega) rfl rfl rfl ⟨rfl, rfl, rfl, rfl, rfl, rfl, rfl, rfl, trivial⟩ (fun s2 hs2 => ?_)
    conv => whnf
    refine b_X6_sparedBits [8] ?_
    conv => whnf
    have e4 : spaI w n P v i x = x &&& (butI s2.2.2 (nI i) ^^^ Int32.ofInt (-1)) := by rw [hs2.2]; rfl
    simp only [itr, e4] at hK
    have h2 := ih (i + 1) s2 _ (by omega) hK
    rw [← nI_add i 1] at h2
    exact h2
theorem s_spa {md : WS} {hd un : Nat → Int32} {w : WS} {n : Nat} {v : Int32} {A P : Nat → Nat} {b : Int32 × Int32} {s : S3} (hw : wOk w n A P) {K : Option Value → AH → Prop} (hK : ∀ s2, K (some (.int (itr (spaI w n P v) n 0 (fWhole w)))) (pC s2 md (b) hd un w)) : am_M i_X6_sparedBits [.ref 0, .ref 12, .int v] (pC s md b hd un w) K := by
  refine e_X6_sparedBits [8] ?_
  conv => whnf
  refine s_wholeBits (w := w) (r := fun i => 13 + i) ⟨rfl, rfl, rfl, rfl, rfl, rfl⟩ ?_
  refine b_X6_sparedBits [8] ?_
  conv => whnf
  exact l_spa hw n 0 s _ (by omega) hK
