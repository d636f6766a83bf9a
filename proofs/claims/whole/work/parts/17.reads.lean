/-! SPECS: what is read of a wave and of a wire, wherever they lie -/
def itr {σ : Type} (f : Nat → σ → σ) : Nat → Nat → σ → σ
  | 0, _, s => s
  | k + 1, i, s => itr f k (i + 1) (f i s)
def wAt (h : AH) (a : Nat) (w : WS) (r : Nat → Nat) : Prop := nth h a = some (.inr (.inr (9, [.int (w.1 0), .int (w.1 1), .int (w.1 2), .int (w.1 3), .ref (r 0), .ref (r 1), .ref (r 2), .ref (r 3), .ref (r 4)]))) ∧ nth h (r 0) = some (.inl (8, w.2 0)) ∧ nth h (r 1) = some (.inl (8, w.2 1)) ∧ nth h (r 2) = some (.inl (8, w.2 2)) ∧ nth h (r 3) = some (.inl (8, w.2 3)) ∧ nth h (r 4) = some (.inl (8, w.2 4))
def uAt (h : AH) (a : Nat) (s : S3) (ga : Nat) : Prop := nth h a = some (.inr (.inr (8, [.ref ga, .int s.2.1, .int s.2.2]))) ∧ nth h ga = some (.inl (8, s.1))
theorem vI8 {n i : Nat} (hn : n ≤ 8) (hi : i < n) : vp_in (nI i) 8 := vp_in_nI (by omega) (by decide)
theorem s_isHeardBy {h : AH} {a ga : Nat} {s : S3} (hu : uAt h a s ga) {x : Int32} {K : Option Value → AH → Prop} (hK : K (some (.int (bI (fCut s.2.1 x)))) h) : am_M i_X9_isHeardBy [.ref a, .int x] h K := by
  refine e_X9_isHeardBy [] ?_
  conv => whnf
  refine ⟨fun c1 => ?_, fun c1 => ?_⟩
  · refine b_X9_isHeardBy [] ?_
    conv => whnf
    refine ⟨(by first | exact Or.inl nI_0 | exact Or.inr nI_one | assumption), ?_⟩
    simp only [fCut, c1, decide_true, Bool.not_true, Bool.false_and] at hK; exact hK
  · conv => whnf
    refine am_hgn hu.1 ?_
    conv => whnf
    refine ⟨fun c12 => ?_, fun c12 => ?_⟩
    · refine b_X9_isHeardBy [] ?_
      conv => whnf
      refine ⟨(by first | exact Or.inl nI_0 | exact Or.inr nI_one | assumption), ?_⟩
      simp only [fCut, c1, hasB_f c12, decide_false, Bool.not_false, Bool.true_and] at hK; exact hK
    · conv => whnf
      refine b_X9_isHeardBy [] ?_
      conv => whnf
      refine ⟨(by first | exact Or.inl nI_0 | exact Or.inr nI_one | assumption), ?_⟩
      simp only [fCut, c1, hasB_t c12, decide_false, Bool.not_false, Bool.true_and] at hK; exact hK
theorem s_hasBroken {h : AH} {a ga : Nat} {s : S3} (hu : uAt h a s ga) {x : Int32} {K : Option Value → AH → Prop} (hK : K (some (.int (bI (hasB s.2.2 x)))) h) : am_M i_X9_hasBroken [.ref a, .int x] h K := by
  refine e_X9_hasBroken [] ?_
  conv => whnf
  refine am_hgn hu.1 ?_
  conv => whnf
  refine ⟨fun c8 => ?_, fun c8 => ?_⟩
  · refine b_X9_hasBroken [] ?_
    conv => whnf
    refine ⟨(by first | exact Or.inl nI_0 | exact Or.inr nI_one | assumption), ?_⟩
    rw [hasB_f c8] at hK; exact hK
  · conv => whnf
    refine b_X9_hasBroken [] ?_
    conv => whnf
    refine ⟨(by first | exact Or.inl nI_0 | exact Or.inr nI_one | assumption), ?_⟩
    rw [hasB_t c8] at hK; exact hK
theorem s_hearerCount {h : AH} {a ga : Nat} {s : S3} (hu : uAt h a s ga) {K : Option Value → AH → Prop} (hK : K (some (.int (fBc s.2.1))) h) : am_M i_X9_hearerCount [.ref a] h K := by
  refine e_X9_hearerCount [] ?_
  conv => whnf
  refine am_hgn hu.1 ?_
  conv => whnf
  refine s_bc ?_
  refine b_X9_hearerCount [] ?_
  conv => whnf
  exact hK
theorem s_brokenCount {h : AH} {a ga : Nat} {s : S3} (hu : uAt h a s ga) {K : Option Value → AH → Prop} (hK : K (some (.int (fBc s.2.2))) h) : am_M i_X9_brokenCount [.ref a] h K := by
  refine e_X9_brokenCount [] ?_
  conv => whnf
  refine am_hgn hu.1 ?_
  conv => whnf
  refine s_bc ?_
  refine b_X9_brokenCount [] ?_
  conv => whnf
  exact hK
def butI (s x : Int32) : Int32 := s &&& ((nI 1 <<< (x &&& 31)) ^^^ Int32.ofInt (-1))
theorem s_othersBroken {h : AH} {a ga : Nat} {s : S3} (hu : uAt h a s ga) {x : Int32} {K : Option Value → AH → Prop} (hK : K (some (.int (fBc (butI s.2.2 x)))) h) : am_M i_X9_othersBroken [.ref a, .int x] h K := by
  refine e_X9_othersBroken [] ?_
  conv => whnf
  refine am_hgn hu.1 ?_
  conv => whnf
  refine s_bc ?_
  refine b_X9_othersBroken [] ?_
  conv => whnf
  exact hK
theorem s_jumpIn {h : AH} {a ga : Nat} {s : S3} (hu : uAt h a s ga) {wa : Nat} {w : WS} {r : Nat → Nat} (hw : wAt h wa w r) {t : Nat} (ht : t < 8) {K : Option Value → AH → Prop} (hK : K (some (.int (fJump (w.2 0 t) (s.1 t)))) h) : am_M i_X9_jumpIn [.ref a, .ref wa, .int (nI t)] h K := by
  have e : (nI t).toNatClampNeg = t := nI_clamp (by omega)
  refine e_X9_jumpIn [] ?_
  conv => whnf
  refine am_hgn hw.1 ?_
  conv => whnf
  refine am_hgn hw.2.1 ?_
  conv => whnf
  refine ⟨(vI8 (Nat.le_refl 8) ht), ?_⟩
  conv => whnf
  refine am_hgn hu.1 ?_
  conv => whnf
  refine am_hgn hu.2 ?_
  conv => whnf
  refine ⟨(vI8 (Nat.le_refl 8) ht), ?_⟩
  conv => whnf
  rw [e]
  refine s_jumpBy ?_
  refine b_X9_jumpIn [] ?_
  conv => whnf
  exact hK
theorem l_jumpsIn {h : AH} {a ga : Nat} {s : S3} (hu : uAt h a s ga) {wa : Nat} {w : WS} {r : Nat → Nat} (hw : wAt h wa w r) {n : Nat} {K : Option Value → AH → Prop} (hn : w.1 0 = nI n) (hn8 : n ≤ 8) : ∀ (k i : Nat) (x : Int32) , i + k = n → (K (some (.int (itr (fun t x => x + fJump (w.2 0 t) (s.1 t)) k i x))) h) → am_E i_X9_jumpsIn 4 [some (.ref a), some (.ref wa), some (.int x), some (.int (nI i))] [] h K := by
  intro k
  induction k with
  | zero =>
    intro i x  hi hK
    obtain rfl : i = n := by omega
    refine b_X9_jumpsIn [4] ?_
    conv => whnf
    refine am_hgn hw.1 ?_
    conv => whnf
    refine ⟨fun c9 => ?_, fun c9 => absurd (by rw [hn]; exact nI_le (Nat.le_refl _) (by omega)) c9⟩
    refine b_X9_jumpsIn [4] ?_
    conv => whnf
    exact hK
  | succ k ih =>
    intro i x  hi hK
    refine b_X9_jumpsIn [4] ?_
    conv => whnf
    refine am_hgn hw.1 ?_
    conv => whnf
    refine ⟨fun c9 => absurd c9 (by rw [hn]; exact nI_ge (by omega) (by omega)), fun c9 => ?_⟩
    conv => whnf
    refine am_hgn hu.1 ?_
    conv => whnf
    refine s_jumpIn hu hw (by omega) ?_
    refine b_X9_jumpsIn [4] ?_
    conv => whnf
    have h2 := ih (i + 1) (x + fJump (w.2 0 i) (s.1 i))  (by omega) hK
    rw [← nI_add i 1] at h2
    exact h2
theorem s_jumpsIn {h : AH} {a ga : Nat} {s : S3} (hu : uAt h a s ga) {wa : Nat} {w : WS} {r : Nat → Nat} (hw : wAt h wa w r) {n : Nat} (hn : w.1 0 = nI n) (hn8 : n ≤ 8) {K : Option Value → AH → Prop} (hK : K (some (.int (itr (fun t x => x + fJump (w.2 0 t) (s.1 t)) n 0 (nI 0)))) h) : am_M i_X9_jumpsIn [.ref a, .ref wa] h K := by
  refine e_X9_jumpsIn [4] ?_
  conv => whnf
  exact l_jumpsIn hu hw hn hn8 n 0 _ (by omega) hK
def absI (x : Int32) : Int32 := if 0 ≤ x then x else 0 - x
def fFarS (w : WS) (s : S3) (pl : Int32) (i : Nat) (q : Int32 × Int32) : Int32 × Int32 := if fCut s.2.1 (w.2 3 i) = true then (if absI (nI i - pl) ≤ q.2 then q else (nI i, absI (nI i - pl))) else q
theorem l_farIn {h : AH} {a ga : Nat} {s : S3} (hu : uAt h a s ga) {wa : Nat} {w : WS} {r : Nat → Nat} (hw : wAt h wa w r) {n : Nat} {tv pl : Int32} {K : Option Value → AH → Prop} (hn : w.1 0 = nI n) (hn8 : n ≤ 8) : ∀ (k i : Nat) (q : Int32 × Int32) , i + k = n → (K (some (.int (itr (fFarS w s pl) k i q).1)) h) → am_E i_X9_farthestIn 17 [some (.ref a), some (.ref wa), some (.int tv), some (.int pl), some (.int q.1), some (.int q.2), some (.int (nI i))] [] h K := by
  intro k
  induction k with
  | zero =>
    intro i q  hi hK
    obtain rfl : i = n := by omega
    refine b_X9_farthestIn [17] ?_
    conv => whnf
    refine am_hgn hw.1 ?_
    conv => whnf
    refine ⟨fun c23 => ?_, fun c23 => absurd (by rw [hn]; exact nI_le (Nat.le_refl _) (by omega)) c23⟩
    refine b_X9_farthestIn [17] ?_
    conv => whnf
    exact hK
  | succ k ih =>
    intro i q  hi hK
    have e : (nI i).toNatClampNeg = i := nI_clamp (by omega)
    refine b_X9_farthestIn [17] ?_
    conv => whnf
    refine am_hgn hw.1 ?_
    conv => whnf
    refine ⟨fun c23 => absurd c23 (by rw [hn]; exact nI_ge (by omega) (by omega)), fun c23 => ?_⟩
    conv => whnf
    refine am_hgn hw.1 ?_
    conv => whnf
    refine am_hgn hw.2.2.2.2.1 ?_
    conv => whnf
    refine ⟨(vI8 hn8 (by omega)), ?_⟩
    conv => whnf
    rw [e]
    refine am_hgn hu.1 ?_
    conv => whnf
    refine s_isHeardBy hu ?_
    refine b_X9_farthestIn [17] ?_
    conv => whnf
    refine ⟨fun c37 => ?_, fun c37 => ?_⟩
    · refine b_X9_farthestIn [17] ?_
      conv => whnf
      simp only [itr, fFarS] at hK
      rw [if_neg (by rw [bI_0.mp c37]; decide)] at hK
      have h2 := ih (i + 1) (q) (by omega) hK
      rw [← nI_add i 1] at h2
      exact h2
    · conv => whnf
      refine ⟨fun c49 => ?_, fun c49 => ?_⟩
      · refine b_X9_farthestIn [17] ?_
        conv => whnf
        simp only [itr, fFarS] at hK
        rw [if_pos (bI_n0.mp c37), if_pos (show absI (nI i - pl) ≤ q.2 from c49)] at hK
        have h2 := ih (i + 1) (q) (by omega) hK
        rw [← nI_add i 1] at h2
        exact h2
      · conv => whnf
        simp only [itr, fFarS] at hK
        rw [if_pos (bI_n0.mp c37), if_neg (show ¬ absI (nI i - pl) ≤ q.2 from c49)] at hK
        have h2 := ih (i + 1) ((nI i, absI (nI i - pl))) (by omega) hK
        rw [← nI_add i 1] at h2
        exact h2
theorem s_farIn {h : AH} {a ga : Nat} {s : S3} (hu : uAt h a s ga) {wa : Nat} {w : WS} {r : Nat → Nat} (hw : wAt h wa w r) {n t : Nat} (hn : w.1 0 = nI n) (hn8 : n ≤ 8) (ht : t < n) {K : Option Value → AH → Prop} (hK : K (some (.int ((itr (fFarS w s (w.2 4 t)) n 0 (Int32.ofInt (-9), Int32.ofInt (-1))).1))) h) : am_M i_X9_farthestIn [.ref a, .ref wa, .int (nI t)] h K := by
  have e : (nI t).toNatClampNeg = t := nI_clamp (by omega)
  refine e_X9_farthestIn [17] ?_
  conv => whnf
  refine am_hgn hw.1 ?_
  conv => whnf
  refine am_hgn hw.2.2.2.2.2 ?_
  conv => whnf
  refine ⟨(vI8 hn8 ht), ?_⟩
  conv => whnf
  rw [e]
  exact l_farIn hu hw hn hn8 n 0 (Int32.ofInt (-9), Int32.ofInt (-1)) (by omega) hK
def fWhole (w : WS) : Int32 := ((nI 1 <<< (w.1 0 &&& 31)) - nI 1) &&& (w.1 1 ^^^ Int32.ofInt (-1))
theorem s_wholeBits {h : AH} {wa : Nat} {w : WS} {r : Nat → Nat} (hw : wAt h wa w r) {K : Option Value → AH → Prop} (hK : K (some (.int (fWhole w))) h) : am_M i_X10_wholeBits [.ref wa] h K := by
  refine e_X10_wholeBits [] ?_
  conv => whnf
  refine am_hgn hw.1 ?_
  conv => whnf
  refine am_hgn hw.1 ?_
  conv => whnf
  exact hK
theorem l_allLoss {h : AH} {wa : Nat} {w : WS} {r : Nat → Nat} (hw : wAt h wa w r) {n : Nat} {K : Option Value → AH → Prop} (hn : w.1 0 = nI n) (hn8 : n ≤ 8) : ∀ (k i : Nat) (x : Int32) , i + k = n → (K (some (.int (itr (fun t x => x + fLoss (w.2 0 t) (w.2 1 t)) k i x))) h) → am_E i_X10_allLoss 4 [some (.ref wa), some (.int x), some (.int (nI i))] [] h K := by
  intro k
  induction k with
  | zero =>
    intro i x  hi hK
    obtain rfl : i = n := by omega
    refine b_X10_allLoss [4] ?_
    conv => whnf
    refine am_hgn hw.1 ?_
    conv => whnf
    refine ⟨fun c9 => ?_, fun c9 => absurd (by rw [hn]; exact nI_le (Nat.le_refl _) (by omega)) c9⟩
    refine b_X10_allLoss [4] ?_
    conv => whnf
    exact hK
  | succ k ih =>
    intro i x  hi hK
    have e : (nI i).toNatClampNeg = i := nI_clamp (by omega)
    refine b_X10_allLoss [4] ?_
    conv => whnf
    refine am_hgn hw.1 ?_
    conv => whnf
    refine ⟨fun c9 => absurd c9 (by rw [hn]; exact nI_ge (by omega) (by omega)), fun c9 => ?_⟩
    conv => whnf
    refine am_hgn hw.1 ?_
    conv => whnf
    refine am_hgn hw.2.1 ?_
    conv => whnf
    refine ⟨(vI8 hn8 (by omega)), ?_⟩
    conv => whnf
    refine am_hgn hw.1 ?_
    conv => whnf
    refine am_hgn hw.2.2.1 ?_
    conv => whnf
    refine ⟨(vI8 hn8 (by omega)), ?_⟩
    conv => whnf
    rw [e]
    refine s_lossOf ?_
    refine b_X10_allLoss [4] ?_
    conv => whnf
    have h2 := ih (i + 1) (x + fLoss (w.2 0 i) (w.2 1 i))  (by omega) hK
    rw [← nI_add i 1] at h2
    exact h2
theorem s_allLoss {h : AH} {wa : Nat} {w : WS} {r : Nat → Nat} (hw : wAt h wa w r) {n : Nat} (hn : w.1 0 = nI n) (hn8 : n ≤ 8) {K : Option Value → AH → Prop} (hK : K (some (.int (itr (fun t x => x + fLoss (w.2 0 t) (w.2 1 t)) n 0 (nI 0)))) h) : am_M i_X10_allLoss [.ref wa] h K := by
  refine e_X10_allLoss [4] ?_
  conv => whnf
  exact l_allLoss hw hn hn8 n 0 _ (by omega) hK
def fWay (w : WS) (i : Nat) : Int32 := absI (w.2 2 (w.2 3 (i + 1)).toNatClampNeg - w.2 2 (w.2 3 i).toNatClampNeg)
theorem s_wayOver {h : AH} {wa : Nat} {w : WS} {r : Nat → Nat} (hw : wAt h wa w r) {n i : Nat} (hn8 : n ≤ 8) (hat : ∀ j, j < n → vp_in (w.2 3 j) 8) (hi : i + 1 < n) {K : Option Value → AH → Prop} (hK : K (some (.int (fWay w i))) h) : am_M i_X10_wayOver [.ref wa, .int (nI i)] h K := by
  have e : (nI i).toNatClampNeg = i := nI_clamp (by omega)
  have e1 : (nI (i + 1)).toNatClampNeg = i + 1 := nI_clamp (by omega)
  refine e_X10_wayOver [] ?_
  conv => whnf
  refine am_hgn hw.1 ?_
  conv => whnf
  refine am_hgn hw.1 ?_
  conv => whnf
  refine am_hgn hw.2.2.2.2.1 ?_
  conv => whnf
  refine ⟨(by rw [nI_add]; exact vI8 hn8 hi), ?_⟩
  conv => whnf
  rw [nI_add, e1]
  refine am_hgn hw.2.2.2.1 ?_
  conv => whnf
  refine ⟨(hat _ hi), ?_⟩
  conv => whnf
  refine am_hgn hw.1 ?_
  conv => whnf
  refine am_hgn hw.1 ?_
  conv => whnf
  refine am_hgn hw.2.2.2.2.1 ?_
  conv => whnf
  refine ⟨(vI8 hn8 (by omega)), ?_⟩
  conv => whnf
  rw [e]
  refine am_hgn hw.2.2.2.1 ?_
  conv => whnf
  refine ⟨(hat _ (by omega)), ?_⟩
  conv => whnf
  exact hK
