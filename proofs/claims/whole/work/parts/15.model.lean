/-! bits of a set, as the class and as the model ask for them -/
theorem bm_tp : ∀ t, t < 32 → (nI 1 <<< (nI t &&& 31)).toBitVec = BitVec.twoPow 32 t := by decide +kernel
theorem sh_tp : ∀ t, t < 32 → ((nI t &&& 31).toBitVec.smod 32) = BitVec.ofNat 32 t := by decide +kernel
theorem hasB_bit (s : Int32) (t : Nat) (h : t < 32) : hasB s (nI t) = s.toBitVec.getLsbD t := by
  unfold hasB bmask
  have h1 : (s &&& (nI 1 <<< (nI t &&& 31)) = 0) ↔ (s.toBitVec &&& BitVec.twoPow 32 t) = 0#32 := by
    rw [← Int32.toBitVec_inj, Int32.toBitVec_and, bm_tp t h]
    rfl
  rw [BitVec.and_twoPow] at h1
  cases hb : s.toBitVec.getLsbD t
  · rw [hb] at h1
    simp only [Bool.false_eq_true, ↓reduceIte] at h1
    simp [h1]
  · rw [hb] at h1
    simp only [↓reduceIte] at h1
    have : ¬ BitVec.twoPow 32 t = 0#32 := by
      intro z
      have := congrArg (fun v => BitVec.getLsbD v t) z
      simp [BitVec.getLsbD_twoPow, h] at this
    simp [h1, this]
def hasM (s x : Int32) : Bool := decide ((s >>> (x &&& 31)) &&& nI 1 = nI 1)
theorem hasM_bit (s : Int32) (t : Nat) (h : t < 32) : hasM s (nI t) = s.toBitVec.getLsbD t := by
  unfold hasM
  have h1 : ((s >>> (nI t &&& 31)) &&& nI 1 = nI 1) ↔ ((s.toBitVec.sshiftRight t) &&& BitVec.twoPow 32 0) = BitVec.twoPow 32 0 := by
    rw [← Int32.toBitVec_inj, Int32.toBitVec_and, Int32.toBitVec_shiftRight, sh_tp t h]
    have e1 : (nI 1).toBitVec = BitVec.twoPow 32 0 := by decide
    have e2 : s.toBitVec.sshiftRight' (BitVec.ofNat 32 t) = s.toBitVec.sshiftRight t := by
      rw [BitVec.sshiftRight_eq', BitVec.toNat_ofNat, Nat.mod_eq_of_lt (by omega)]
    rw [e1, e2]
  rw [BitVec.and_twoPow, BitVec.getLsbD_sshiftRight] at h1
  simp only [Nat.add_zero, h, ↓reduceIte, show ¬ (32 ≤ 0) by decide, decide_false, Bool.not_false, Bool.true_and] at h1
  cases hb : s.toBitVec.getLsbD t
  · rw [hb] at h1
    simp only [Bool.false_eq_true, ↓reduceIte] at h1
    have : ¬ 0#32 = BitVec.twoPow 32 0 := by decide
    simp [h1, this]
  · rw [hb] at h1
    simp only [↓reduceIte, iff_true] at h1
    simp [h1]
theorem hasM_B (s : Int32) (t : Nat) (h : t < 32) : hasM s (nI t) = hasB s (nI t) := by rw [hasM_bit s t h, hasB_bit s t h]
/-! SPECS of the model: its leaves. The scratch (got, breaking) apart: g, b -/
abbrev MS : Type := (Nat → Int32) × (Nat → Nat → Int32)
def mO (m : MS) (b : Int32) : AC := .inr (.inr (11, [.ref 1, .ref 2, .ref 3, .ref 4, .ref 5, .int (m.1 5), .int (m.1 6), .int (m.1 7), .int (m.1 8), .ref 6, .ref 7, .ref 8, .ref 9, .int (m.1 13), .int (m.1 14), .int (m.1 15), .ref 10, .int (m.1 17), .int (m.1 18), .int (m.1 19), .int (m.1 20), .ref 11, .int b, .ref 12, .int (m.1 24), .ref 13, .ref 14, .int (m.1 27)]))
def mC (m : MS) (g : Nat → Int32) (b : Int32) : AH := [mO m b, .inl (7, m.2 0), .inl (8, m.2 1), .inl (8, m.2 2), .inl (8, m.2 3), .inl (8, m.2 4), .inl (96, m.2 5), .inl (48, m.2 6), .inl (48, m.2 7), .inl (144, m.2 8), .inl (440, m.2 9), .inl (8, g), .inl (12, m.2 11), .inl (8, m.2 12), .inl (2048, m.2 13)]
/-- the wire that the model holds -/
def mW (m : MS) : WS := (fun i => m.1 (i + 5), fun i => m.2 (i + 1))
def setI (m : MS) (i : Nat) (x : Int32) : MS := (va_up m.1 i x, m.2)
def setA (m : MS) (i : Nat) (f : Nat → Int32) : MS := (m.1, va_up m.2 i f)
/-- a model in order: n things, their order A, their places P -/
def mOk (m : MS) (n : Nat) (A P : Nat → Nat) : Prop := m.1 5 = nI n ∧ n ≤ 8 ∧ (∀ j, j < n → m.2 4 j = nI (A j) ∧ A j < n ∧ P (A j) = j) ∧ ∀ t, t < n → P t < n ∧ A (P t) = t
def fIn (v a b : Int32) : Bool := !(decide (v < a)) && !(decide (b < v))
theorem m_isIn {v a b : Int32} {h : AH} {K : Option Value → AH → Prop} (hK : K (some (.int (bI (fIn v a b)))) h) : am_M i_X12_isIn [.int v, .int a, .int b] h K := by
  refine e_X12_isIn [] ?_
  conv => whnf
  refine ⟨fun c2 => ?_, fun c2 => ?_⟩
  · refine b_X12_isIn [] ?_
    conv => whnf
    refine ⟨(by first | exact Or.inl nI_0 | exact Or.inr nI_one | assumption), ?_⟩
    simp only [fIn, c2, decide_true, Bool.not_true, Bool.false_and] at hK; exact hK
  · conv => whnf
    refine ⟨fun c7 => ?_, fun c7 => ?_⟩
    · refine b_X12_isIn [] ?_
      conv => whnf
      refine ⟨(by first | exact Or.inl nI_0 | exact Or.inr nI_one | assumption), ?_⟩
      simp only [fIn, c2, c7, decide_false, decide_true, Bool.not_true, Bool.not_false, Bool.true_and] at hK; exact hK
    · conv => whnf
      refine b_X12_isIn [] ?_
      conv => whnf
      refine ⟨(by first | exact Or.inl nI_0 | exact Or.inr nI_one | assumption), ?_⟩
      simp only [fIn, c2, c7, decide_false, Bool.not_false, Bool.true_and] at hK; exact hK
def fBound (v a b : Int32) : Int32 := if a ≤ v then (if v ≤ b then nI 0 else Int32.ofInt (-6)) else Int32.ofInt (-4)
theorem m_bound {v a b : Int32} {h : AH} {K : Option Value → AH → Prop} (hK : K (some (.int (fBound v a b))) h) : am_M i_X12_bound [.int v, .int a, .int b] h K := by
  refine e_X12_bound [] ?_
  conv => whnf
  refine ⟨fun c2 => ?_, fun c2 => ?_⟩
  · refine b_X12_bound [] ?_
    conv => whnf
    refine ⟨fun c12 => ?_, fun c12 => ?_⟩
    · refine b_X12_bound [] ?_
      conv => whnf
      simp only [fBound, c2, c12, ↓reduceIte] at hK; exact hK
    · conv => whnf
      refine b_X12_bound [] ?_
      conv => whnf
      simp only [fBound, c2, c12, ↓reduceIte] at hK; exact hK
  · conv => whnf
    refine b_X12_bound [] ?_
    conv => whnf
    simp only [fBound, c2, ↓reduceIte] at hK; exact hK
theorem m_notBlow {v : Int32} {h : AH} {K : Option Value → AH → Prop} (hK : K (some (.int (fBound v (nI 1) (nI 60)))) h) : am_M i_X12_notBlow [.int v] h K := by
  refine e_X12_notBlow [] ?_
  conv => whnf
  refine m_bound ?_
  refine b_X12_notBlow [] ?_
  conv => whnf
  exact hK
theorem m_has {s x : Int32} {h : AH} {K : Option Value → AH → Prop} (hK : K (some (.int (bI (hasM s x)))) h) : am_M i_X12_has [.int s, .int x] h K := by
  refine e_X12_has [] ?_
  conv => whnf
  refine ⟨fun c6 => ?_, fun c6 => ?_⟩
  · conv => whnf
    refine b_X12_has [] ?_
    conv => whnf
    refine ⟨(by first | exact Or.inl nI_0 | exact Or.inr nI_one | assumption), ?_⟩
    simp only [hasM, c6, decide_true] at hK; exact hK
  · refine b_X12_has [] ?_
    conv => whnf
    refine ⟨(by first | exact Or.inl nI_0 | exact Or.inr nI_one | assumption), ?_⟩
    simp only [hasM, c6, decide_false] at hK; exact hK
def fBitsL (x : Int32) : Nat → Nat → Int32 → Int32
  | 0, _, a => a
  | k + 1, i, a => fBitsL x k (i + 1) (a + ((x >>> (nI i &&& 31)) &&& nI 1))
def fBits (x : Int32) : Int32 := fBitsL x 31 0 (nI 0)
theorem l_bits {x : Int32} {h : AH} {K : Option Value → AH → Prop} : ∀ (k i : Nat) (a : Int32), i + k = 31 → K (some (.int (fBitsL x k i a))) h → am_E i_X12_bits 4 [some (.int x), some (.int a), some (.int (nI i))] [] h K := by
  intro k
  induction k with
  | zero =>
    intro i a hi hK
    obtain rfl : i = 31 := by omega
    refine b_X12_bits [4] ?_
    conv => whnf
    refine ⟨fun c7 => ?_, fun c7 => absurd (by decide) c7⟩
    refine b_X12_bits [4] ?_
    conv => whnf
    exact hK
  | succ k ih =>
    intro i a hi hK
    refine b_X12_bits [4] ?_
    conv => whnf
    refine ⟨fun c7 => absurd c7 (nI_ge (by omega) (by omega)), fun c7 => ?_⟩
    conv => whnf
    have h2 := ih (i + 1) _ (by omega) hK
    rw [← nI_add i 1] at h2
    exact h2
theorem m_bits {x : Int32} {h : AH} {K : Option Value → AH → Prop} (hK : K (some (.int (fBits x))) h) : am_M i_X12_bits [.int x] h K := by
  refine e_X12_bits [4] ?_
  conv => whnf
  exact l_bits 31 0 (nI 0) rfl hK
def fFar (a b : Int32) : Int32 := if a ≤ b then b - a else a - b
theorem m_far {a b : Int32} {h : AH} {K : Option Value → AH → Prop} (hK : K (some (.int (fFar a b))) h) : am_M i_X12_far [.int a, .int b] h K := by
  refine e_X12_far [] ?_
  conv => whnf
  refine ⟨fun c2 => ?_, fun c2 => ?_⟩
  · refine b_X12_far [] ?_
    conv => whnf
    simp only [fFar, c2, ↓reduceIte] at hK; exact hK
  · conv => whnf
    refine b_X12_far [] ?_
    conv => whnf
    simp only [fFar, c2, ↓reduceIte] at hK; exact hK
def fIsTh (t x : Int32) : Bool := !(decide (x < 0)) && !(decide (t ≤ x))
theorem m_isThing {m : MS} {g : Nat → Int32} {b : Int32} {x : Int32} {K : Option Value → AH → Prop} (hK : K (some (.int (bI (fIsTh (m.1 5) x)))) (mC m g b)) : am_M i_X12_isThing [.ref 0, .int x] (mC m g b) K := by
  refine e_X12_isThing [] ?_
  conv => whnf
  refine ⟨fun c1 => ?_, fun c1 => ?_⟩
  · refine b_X12_isThing [] ?_
    conv => whnf
    refine ⟨(by first | exact Or.inl nI_0 | exact Or.inr nI_one | assumption), ?_⟩
    simp only [fIsTh, c1, decide_true, Bool.not_true, Bool.false_and] at hK; exact hK
  · conv => whnf
    refine ⟨fun c9 => ?_, fun c9 => ?_⟩
    · refine b_X12_isThing [] ?_
      conv => whnf
      refine ⟨(by first | exact Or.inl nI_0 | exact Or.inr nI_one | assumption), ?_⟩
      simp only [fIsTh, c1, c9, decide_true, decide_false, Bool.not_true, Bool.not_false, Bool.true_and] at hK; exact hK
    · conv => whnf
      refine b_X12_isThing [] ?_
      conv => whnf
      refine ⟨(by first | exact Or.inl nI_0 | exact Or.inr nI_one | assumption), ?_⟩
      simp only [fIsTh, c1, c9, decide_false, Bool.not_false, Bool.true_and] at hK; exact hK
theorem m_isLink {m : MS} {g : Nat → Int32} {b : Int32} {x : Int32} {K : Option Value → AH → Prop} (hK : K (some (.int (bI (fIsTh (m.1 5 - nI 1) x)))) (mC m g b)) : am_M i_X12_isLink [.ref 0, .int x] (mC m g b) K := by
  refine e_X12_isLink [] ?_
  conv => whnf
  refine ⟨fun c1 => ?_, fun c1 => ?_⟩
  · refine b_X12_isLink [] ?_
    conv => whnf
    refine ⟨(by first | exact Or.inl nI_0 | exact Or.inr nI_one | assumption), ?_⟩
    simp only [fIsTh, c1, decide_true, Bool.not_true, Bool.false_and] at hK; exact hK
  · conv => whnf
    refine ⟨fun c11 => ?_, fun c11 => ?_⟩
    · refine b_X12_isLink [] ?_
      conv => whnf
      refine ⟨(by first | exact Or.inl nI_0 | exact Or.inr nI_one | assumption), ?_⟩
      simp only [fIsTh, c1, c11, decide_true, decide_false, Bool.not_true, Bool.not_false, Bool.true_and] at hK; exact hK
    · conv => whnf
      refine b_X12_isLink [] ?_
      conv => whnf
      refine ⟨(by first | exact Or.inl nI_0 | exact Or.inr nI_one | assumption), ?_⟩
      simp only [fIsTh, c1, c11, decide_false, Bool.not_false, Bool.true_and] at hK; exact hK
def mLoss (m : MS) (t : Nat) : Int32 := fLoss (m.2 1 t) (m.2 2 t)
def fStM (k f : Int32) : Int32 := if k = nI 1 then nI 10 + f - nI 4 else if k = nI 2 then nI 10 + f + nI 5 else if k = nI 3 then (nI 10 + f - nI 4) / nI 2 else if k = nI 4 then nI 99 else if k = nI 5 then nI 6 else nI 10 + f
theorem fStM_eq (k f : Int32) : fStM k f = fStands k f := by
  have h : nI 10 + f - nI 4 - f = nI 6 := by
    apply Int32.toBitVec_inj.mp
    simp only [Int32.toBitVec_sub, Int32.toBitVec_add]
    have e1 : (nI 10).toBitVec = 10#32 := by decide
    have e2 : (nI 4).toBitVec = 4#32 := by decide
    have e3 : (nI 6).toBitVec = 6#32 := by decide
    rw [e1, e2, e3]
    bv_omega
  unfold fStM fStands
  rw [h]
def fJuM (k v : Int32) : Int32 := if v = 0 then nI 0 else if k = nI 1 then v / nI 2 + nI 1 else if k = nI 2 then v / nI 3 else if k = nI 3 then nI 2 * (v / nI 2 + nI 1) else if k = nI 4 then nI 0 else if k = nI 5 then v / nI 2 + nI 1 else v / nI 2
theorem m_lossOf {m : MS} {g : Nat → Int32} {b : Int32} {t : Nat} (ht : t < 8) {K : Option Value → AH → Prop} (hK : K (some (.int (fLoss (m.2 1 t) (m.2 2 t)))) (mC m g b)) : am_M i_X12_lossOf [.ref 0, .int (nI t)] (mC m g b) K := by
  have e : (nI t).toNatClampNeg = t := nI_clamp (by omega)
  refine e_X12_lossOf [] ?_
  conv => whnf
  refine ⟨(vp_in_nI ht (by decide)), ?_⟩
  conv => whnf
  refine ⟨(vp_in_nI ht (by decide)), ?_⟩
  conv => whnf
  rw [e]
  refine ⟨fun (s15_1 : _ = nI 1) => ?_, fun (s15_1 : ¬ _ = nI 1) => ?_⟩
  · conv => whnf
    refine b_X12_lossOf [] ?_
    conv => whnf
    refine ⟨(by decide), ?_⟩
    conv => whnf
    rw [fLoss] at hK; rw [if_pos s15_1] at hK; exact hK
  conv => whnf
  refine ⟨fun (s15_2 : _ = nI 2) => ?_, fun (s15_2 : ¬ _ = nI 2) => ?_⟩
  · conv => whnf
    refine b_X12_lossOf [] ?_
    conv => whnf
    rw [fLoss] at hK; rw [if_neg s15_1, if_pos s15_2] at hK; exact hK
  conv => whnf
  refine ⟨fun (s15_3 : _ = nI 3) => ?_, fun (s15_3 : ¬ _ = nI 3) => ?_⟩
  · conv => whnf
    refine b_X12_lossOf [] ?_
    conv => whnf
    rw [fLoss] at hK; rw [if_neg s15_1, if_neg s15_2, if_pos s15_3] at hK; exact hK
  conv => whnf
  refine ⟨fun (s15_4 : _ = nI 4) => ?_, fun (s15_4 : ¬ _ = nI 4) => ?_⟩
  · conv => whnf
    refine b_X12_lossOf [] ?_
    conv => whnf
    refine ⟨(by decide), ?_⟩
    conv => whnf
    rw [fLoss] at hK; rw [if_neg s15_1, if_neg s15_2, if_neg s15_3, if_pos s15_4] at hK; exact hK
  conv => whnf
  refine ⟨fun (s15_5 : _ = nI 5) => ?_, fun (s15_5 : ¬ _ = nI 5) => ?_⟩
  · conv => whnf
    refine b_X12_lossOf [] ?_
    conv => whnf
    refine ⟨(by decide), ?_⟩
    conv => whnf
    rw [fLoss] at hK; rw [if_neg s15_1, if_neg s15_2, if_neg s15_3, if_neg s15_4, if_pos s15_5] at hK; exact hK
  conv => whnf
  refine b_X12_lossOf [] ?_
  conv => whnf
  rw [fLoss] at hK; rw [if_neg s15_1, if_neg s15_2, if_neg s15_3, if_neg s15_4, if_neg s15_5] at hK; exact hK
theorem m_standsOf {m : MS} {g : Nat → Int32} {b : Int32} {t : Nat} (ht : t < 8) {K : Option Value → AH → Prop} (hK : K (some (.int (fStands (m.2 1 t) (m.2 2 t)))) (mC m g b)) : am_M i_X12_standsOf [.ref 0, .int (nI t)] (mC m g b) K := by
  have e : (nI t).toNatClampNeg = t := nI_clamp (by omega)
  refine e_X12_standsOf [] ?_
  conv => whnf
  refine ⟨(vp_in_nI ht (by decide)), ?_⟩
  conv => whnf
  refine ⟨(vp_in_nI ht (by decide)), ?_⟩
  conv => whnf
  rw [e]
  refine ⟨fun (s16_1 : _ = nI 1) => ?_, fun (s16_1 : ¬ _ = nI 1) => ?_⟩
  · conv => whnf
    refine b_X12_standsOf [] ?_
    conv => whnf
    rw [← fStM_eq, fStM] at hK; rw [if_pos s16_1] at hK; exact hK
  conv => whnf
  refine ⟨fun (s16_2 : _ = nI 2) => ?_, fun (s16_2 : ¬ _ = nI 2) => ?_⟩
  · conv => whnf
    refine b_X12_standsOf [] ?_
    conv => whnf
    rw [← fStM_eq, fStM] at hK; rw [if_neg s16_1, if_pos s16_2] at hK; exact hK
  conv => whnf
  refine ⟨fun (s16_3 : _ = nI 3) => ?_, fun (s16_3 : ¬ _ = nI 3) => ?_⟩
  · conv => whnf
    refine b_X12_standsOf [] ?_
    conv => whnf
    refine ⟨(by decide), ?_⟩
    conv => whnf
    rw [← fStM_eq, fStM] at hK; rw [if_neg s16_1, if_neg s16_2, if_pos s16_3] at hK; exact hK
  conv => whnf
  refine ⟨fun (s16_4 : _ = nI 4) => ?_, fun (s16_4 : ¬ _ = nI 4) => ?_⟩
  · conv => whnf
    refine b_X12_standsOf [] ?_
    conv => whnf
    rw [← fStM_eq, fStM] at hK; rw [if_neg s16_1, if_neg s16_2, if_neg s16_3, if_pos s16_4] at hK; exact hK
  conv => whnf
  refine ⟨fun (s16_5 : _ = nI 5) => ?_, fun (s16_5 : ¬ _ = nI 5) => ?_⟩
  · conv => whnf
    refine b_X12_standsOf [] ?_
    conv => whnf
    rw [← fStM_eq, fStM] at hK; rw [if_neg s16_1, if_neg s16_2, if_neg s16_3, if_neg s16_4, if_pos s16_5] at hK; exact hK
  conv => whnf
  refine b_X12_standsOf [] ?_
  conv => whnf
  rw [← fStM_eq, fStM] at hK; rw [if_neg s16_1, if_neg s16_2, if_neg s16_3, if_neg s16_4, if_neg s16_5] at hK; exact hK
theorem m_jumpOf {m : MS} {g : Nat → Int32} {b : Int32} {t : Nat} {v : Int32} (ht : t < 8) {K : Option Value → AH → Prop} (hK : K (some (.int (fJuM (m.2 1 t) v))) (mC m g b)) : am_M i_X12_jumpOf [.ref 0, .int (nI t), .int v] (mC m g b) K := by
  have e : (nI t).toNatClampNeg = t := nI_clamp (by omega)
  refine e_X12_jumpOf [] ?_
  conv => whnf
  refine ⟨fun c1 => ?_, fun c1 => ?_⟩
  · conv => whnf
    rw [fJuM, if_pos c1] at hK; exact hK
  · refine b_X12_jumpOf [] ?_
    conv => whnf
    refine ⟨(vp_in_nI ht (by decide)), ?_⟩
    conv => whnf
    rw [e]
    refine ⟨fun (s12_1 : _ = nI 1) => ?_, fun (s12_1 : ¬ _ = nI 1) => ?_⟩
    · conv => whnf
      refine b_X12_jumpOf [] ?_
      conv => whnf
      refine ⟨(by decide), ?_⟩
      conv => whnf
      rw [fJuM, if_neg c1] at hK; rw [if_pos s12_1] at hK; exact hK
    conv => whnf
    refine ⟨fun (s12_2 : _ = nI 2) => ?_, fun (s12_2 : ¬ _ = nI 2) => ?_⟩
    · conv => whnf
      refine b_X12_jumpOf [] ?_
      conv => whnf
      refine ⟨(by decide), ?_⟩
      conv => whnf
      rw [fJuM, if_neg c1] at hK; rw [if_neg s12_1, if_pos s12_2] at hK; exact hK
    conv => whnf
    refine ⟨fun (s12_3 : _ = nI 3) => ?_, fun (s12_3 : ¬ _ = nI 3) => ?_⟩
    · conv => whnf
      refine b_X12_jumpOf [] ?_
      conv => whnf
      refine ⟨(by decide), ?_⟩
      conv => whnf
      rw [fJuM, if_neg c1] at hK; rw [if_neg s12_1, if_neg s12_2, if_pos s12_3] at hK; exact hK
    conv => whnf
    refine ⟨fun (s12_4 : _ = nI 4) => ?_, fun (s12_4 : ¬ _ = nI 4) => ?_⟩
    · conv => whnf
      refine b_X12_jumpOf [] ?_
      conv => whnf
      rw [fJuM, if_neg c1] at hK; rw [if_neg s12_1, if_neg s12_2, if_neg s12_3, if_pos s12_4] at hK; exact hK
    conv => whnf
    refine ⟨fun (s12_5 : _ = nI 5) => ?_, fun (s12_5 : ¬ _ = nI 5) => ?_⟩
    · conv => whnf
      refine b_X12_jumpOf [] ?_
      conv => whnf
      refine ⟨(by decide), ?_⟩
      conv => whnf
      rw [fJuM, if_neg c1] at hK; rw [if_neg s12_1, if_neg s12_2, if_neg s12_3, if_neg s12_4, if_pos s12_5] at hK; exact hK
    conv => whnf
    refine b_X12_jumpOf [] ?_
    conv => whnf
    refine ⟨(by decide), ?_⟩
    conv => whnf
    rw [fJuM, if_neg c1] at hK; rw [if_neg s12_1, if_neg s12_2, if_neg s12_3, if_neg s12_4, if_neg s12_5] at hK; exact hK
theorem l_placeOf {m : MS} {g : Nat → Int32} {b : Int32} {n t : Nat} {A P : Nat → Nat} (hm : mOk m n A P) (ht : t < n) {K : Option Value → AH → Prop} (hK : K (some (.int (nI (P t)))) (mC m g b)) : ∀ (k i : Nat), i + k = P t → am_E i_X12_placeOf 2 [some (.ref 0), some (.int (nI t)), some (.int (nI i))] [] (mC m g b) K := by
  obtain ⟨hp, hap⟩ := hm.2.2.2 t ht
  have hn8 := hm.2.1
  intro k
  induction k with
  | zero =>
    intro i hi
    obtain rfl : i = P t := by omega
    have e : (nI (P t)).toNatClampNeg = P t := nI_clamp (by omega)
    obtain ⟨h1, h2, h3⟩ := hm.2.2.1 (P t) hp
    refine b_X12_placeOf [2] ?_
    conv => whnf
    refine ⟨(vp_in_nI (by omega) (by decide)), ?_⟩
    conv => whnf
    rw [e, h1, hap]
    refine ⟨fun c9 => ?_, fun c9 => absurd rfl c9⟩
    refine b_X12_placeOf [2] ?_
    conv => whnf
    exact hK
  | succ k ih =>
    intro i hi
    have e : (nI i).toNatClampNeg = i := nI_clamp (by omega)
    obtain ⟨h1, h2, h3⟩ := hm.2.2.1 i (by omega)
    have hne : ¬ nI (A i) = nI t := by
      intro z
      have z := (nI_eq (by omega) (by omega)).mp z
      rw [z] at h3
      omega
    refine b_X12_placeOf [2] ?_
    conv => whnf
    refine ⟨(vp_in_nI (by omega) (by decide)), ?_⟩
    conv => whnf
    rw [e, h1]
    refine ⟨fun c9 => absurd c9 hne, fun c9 => ?_⟩
    conv => whnf
    have h4 := ih (i + 1) (by omega)
    rw [← nI_add i 1] at h4
    exact h4
theorem m_placeOf {m : MS} {g : Nat → Int32} {b : Int32} {n t : Nat} {A P : Nat → Nat} (hm : mOk m n A P) (ht : t < n) {K : Option Value → AH → Prop} (hK : K (some (.int (nI (P t)))) (mC m g b)) : am_M i_X12_placeOf [.ref 0, .int (nI t)] (mC m g b) K := by
  refine e_X12_placeOf [2] ?_
  conv => whnf
  exact l_placeOf hm ht hK (P t) 0 (by omega)
/-- a landing, and what goes on from it -/
def landF (w : WS) (t v : Int32) (s : S3) : S3 := if v < fStands (w.2 0 t.toNatClampNeg) (w.2 1 t.toNatClampNeg) then land1 t v s else vic1 t (land1 t v s)
def outF (w : WS) (t v : Int32) : Int32 := if v < fStands (w.2 0 t.toNatClampNeg) (w.2 1 t.toNatClampNeg) then v - fLoss (w.2 0 t.toNatClampNeg) (w.2 1 t.toNatClampNeg) else nI 0
theorem m_lands {m : MS} {s : S3} {p a : Nat} {v : Int32} (hp : p < 8) (ha : m.2 4 p = nI a) (ha8 : a < 8) {K : Option Value → AH → Prop} (hK : K (some (.int (outF (mW m) (nI a) v))) (mC m (landF (mW m) (nI a) v s).1 (landF (mW m) (nI a) v s).2.2)) : am_M i_X12_lands [.ref 0, .int (nI p), .int v] (mC m s.1 s.2.2) K := by
  have e : (nI p).toNatClampNeg = p := nI_clamp (by omega)
  have e2 : (nI a).toNatClampNeg = a := nI_clamp (by omega)
  unfold landF outF at hK
  rw [e2] at hK
  refine e_X12_lands [] ?_
  conv => whnf
  refine ⟨(vp_in_nI hp (by decide)), ?_⟩
  conv => whnf
  rw [e, ha]
  refine ⟨(vp_in_nI ha8 (by decide)), ?_⟩
  conv => whnf
  refine m_standsOf (m := m) (g := upd s.1 (nI a).toNatClampNeg v) (b := s.2.2) ha8 ?_
  refine b_X12_lands [] ?_
  conv => whnf
  refine ⟨fun c20 => ?_, fun c20 => ?_⟩
  · refine b_X12_lands [] ?_
    conv => whnf
    refine m_lossOf (m := m) (g := upd s.1 (nI a).toNatClampNeg v) (b := s.2.2) ha8 ?_
    refine b_X12_lands [] ?_
    conv => whnf
    have c21 : v < fStands ((mW m).2 0 a) ((mW m).2 1 a) := c20
    rw [if_pos c21, if_pos c21] at hK; exact hK
  · conv => whnf
    have c21 : ¬ v < fStands ((mW m).2 0 a) ((mW m).2 1 a) := c20
    rw [if_neg c21, if_neg c21] at hK; exact hK
