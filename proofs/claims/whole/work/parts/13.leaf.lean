/-! SPECS: the leaves. bI: a boolean as an int; hasB: a bit of a set -/
theorem nI_one : nI 1 = 1 := by decide +kernel
def bI (b : Bool) : Int32 := if b then nI 1 else nI 0
theorem bI_0 {b : Bool} : bI b = 0 ↔ b = false := by cases b <;> decide
theorem bI_t : bI true = nI 1 := rfl
theorem bI_f : bI false = nI 0 := rfl
theorem bI_01 (b : Bool) : bI b = 0 ∨ bI b = 1 := by cases b <;> decide
def bmask (x : Int32) : Int32 := nI 1 <<< (x &&& 31)
def hasB (s x : Int32) : Bool := !(decide ((s &&& bmask x) = 0))
theorem hasB_t {s x : Int32} (h : ¬ (s &&& (nI 1 <<< (x &&& 31))) = 0) : hasB s x = true := by simp [hasB, bmask, h]
theorem hasB_f {s x : Int32} (h : (s &&& (nI 1 <<< (x &&& 31))) = 0) : hasB s x = false := by simp [hasB, bmask, h]
theorem am_hgn {h : AH} {a : Nat} {c : AC} {k : AC → Prop} (hh : nth h a = some c) (hk : k c) : am_hg h a k := am_hg_iff h a k c (by rw [← nth_eq]; exact hh) hk
def fFirst (a b : Int32) : Int32 := if a = 0 then b else a
theorem s_first {a b : Int32} {h : AH} {K : Option Value → AH → Prop} (hK : K (some (.int (fFirst a b))) h) : am_M i_X11_first [.int a, .int b] h K := by
  refine e_X11_first [] ?_
  conv => whnf
  refine ⟨fun c1 => ?_, fun c1 => ?_⟩
  · refine b_X11_first [] ?_
    conv => whnf
    simp only [fFirst, c1, ↓reduceIte] at hK; exact hK
  · conv => whnf
    refine b_X11_first [] ?_
    conv => whnf
    simp only [fFirst, c1, ↓reduceIte] at hK; exact hK
def fBelow (a b : Int32) : Int32 := if b ≤ a then nI 0 else Int32.ofInt (-4)
theorem s_below {a b : Int32} {h : AH} {K : Option Value → AH → Prop} (hK : K (some (.int (fBelow a b))) h) : am_M i_X11_below [.int a, .int b] h K := by
  refine e_X11_below [] ?_
  conv => whnf
  refine ⟨fun c2 => ?_, fun c2 => ?_⟩
  · refine b_X11_below [] ?_
    conv => whnf
    simp only [fBelow, c2, ↓reduceIte] at hK; exact hK
  · conv => whnf
    refine b_X11_below [] ?_
    conv => whnf
    simp only [fBelow, c2, ↓reduceIte] at hK; exact hK
def fAbove (a b : Int32) : Int32 := if a ≤ b then nI 0 else Int32.ofInt (-6)
theorem s_above {a b : Int32} {h : AH} {K : Option Value → AH → Prop} (hK : K (some (.int (fAbove a b))) h) : am_M i_X11_above [.int a, .int b] h K := by
  refine e_X11_above [] ?_
  conv => whnf
  refine ⟨fun c2 => ?_, fun c2 => ?_⟩
  · refine b_X11_above [] ?_
    conv => whnf
    simp only [fAbove, c2, ↓reduceIte] at hK; exact hK
  · conv => whnf
    refine b_X11_above [] ?_
    conv => whnf
    simp only [fAbove, c2, ↓reduceIte] at hK; exact hK
def fUnk (a b : Int32) : Int32 := if a < 0 then Int32.ofInt (-2) else if a ≤ b then nI 0 else Int32.ofInt (-2)
theorem s_unknown {a b : Int32} {h : AH} {K : Option Value → AH → Prop} (hK : K (some (.int (fUnk a b))) h) : am_M i_X11_unknown [.int a, .int b] h K := by
  refine e_X11_unknown [] ?_
  conv => whnf
  refine ⟨fun c1 => ?_, fun c1 => ?_⟩
  · refine b_X11_unknown [] ?_
    conv => whnf
    refine b_X11_unknown [] ?_
    conv => whnf
    simp only [fUnk, c1, ↓reduceIte] at hK; exact hK
  · conv => whnf
    refine ⟨fun c6 => ?_, fun c6 => ?_⟩
    · refine b_X11_unknown [] ?_
      conv => whnf
      simp only [fUnk, c1, c6, ↓reduceIte] at hK; exact hK
    · conv => whnf
      refine b_X11_unknown [] ?_
      conv => whnf
      simp only [fUnk, c1, c6, ↓reduceIte] at hK; exact hK
def fNoBlow (a : Int32) : Int32 := fFirst (fBelow a (nI 1)) (fAbove a (nI 60))
theorem s_noBlow {a : Int32} {h : AH} {K : Option Value → AH → Prop} (hK : K (some (.int (fNoBlow a))) h) : am_M i_X11_noBlow [.int a] h K := by
  refine e_X11_noBlow [] ?_
  conv => whnf
  refine s_below ?_
  refine b_X11_noBlow [] ?_
  conv => whnf
  refine s_above ?_
  refine b_X11_noBlow [] ?_
  conv => whnf
  refine s_first ?_
  refine b_X11_noBlow [] ?_
  conv => whnf
  exact hK
def fLoss (k f : Int32) : Int32 := if k = nI 1 then (nI 1 + f) / nI 2 else if k = nI 2 then nI 1 + f + nI 2 else if k = nI 3 then nI 1 else if k = nI 4 then (nI 1 + f + nI 2) / nI 2 else if k = nI 5 then (nI 1 + f) / nI 2 + nI 1 else nI 1 + f
theorem s_lossOf {k f : Int32} {h : AH} {K : Option Value → AH → Prop} (hK : K (some (.int (fLoss k f))) h) : am_M i_X3_lossOf [.int k, .int f] h K := by
  refine e_X3_lossOf [] ?_
  conv => whnf
  refine ⟨(by decide), ?_⟩
  conv => whnf
  refine ⟨fun (s14_1 : _ = nI 1) => ?_, fun (s14_1 : ¬ _ = nI 1) => ?_⟩
  · conv => whnf
    refine b_X3_lossOf [] ?_
    conv => whnf
    rw [fLoss, if_pos s14_1] at hK; exact hK
  conv => whnf
  refine ⟨fun (s14_2 : _ = nI 2) => ?_, fun (s14_2 : ¬ _ = nI 2) => ?_⟩
  · conv => whnf
    refine b_X3_lossOf [] ?_
    conv => whnf
    rw [fLoss, if_neg s14_1, if_pos s14_2] at hK; exact hK
  conv => whnf
  refine ⟨fun (s14_3 : _ = nI 3) => ?_, fun (s14_3 : ¬ _ = nI 3) => ?_⟩
  · conv => whnf
    refine b_X3_lossOf [] ?_
    conv => whnf
    rw [fLoss, if_neg s14_1, if_neg s14_2, if_pos s14_3] at hK; exact hK
  conv => whnf
  refine ⟨fun (s14_4 : _ = nI 4) => ?_, fun (s14_4 : ¬ _ = nI 4) => ?_⟩
  · conv => whnf
    refine b_X3_lossOf [] ?_
    conv => whnf
    refine ⟨(by decide), ?_⟩
    conv => whnf
    rw [fLoss, if_neg s14_1, if_neg s14_2, if_neg s14_3, if_pos s14_4] at hK; exact hK
  conv => whnf
  refine ⟨fun (s14_5 : _ = nI 5) => ?_, fun (s14_5 : ¬ _ = nI 5) => ?_⟩
  · conv => whnf
    refine b_X3_lossOf [] ?_
    conv => whnf
    rw [fLoss, if_neg s14_1, if_neg s14_2, if_neg s14_3, if_neg s14_4, if_pos s14_5] at hK; exact hK
  conv => whnf
  refine b_X3_lossOf [] ?_
  conv => whnf
  rw [fLoss, if_neg s14_1, if_neg s14_2, if_neg s14_3, if_neg s14_4, if_neg s14_5] at hK; exact hK
def fStands (k f : Int32) : Int32 := if k = nI 1 then nI 10 + f - nI 4 else if k = nI 2 then nI 10 + f + nI 5 else if k = nI 3 then (nI 10 + f - nI 4) / nI 2 else if k = nI 4 then nI 99 else if k = nI 5 then nI 10 + f - nI 4 - f else nI 10 + f
theorem s_standsOf {k f : Int32} {h : AH} {K : Option Value → AH → Prop} (hK : K (some (.int (fStands k f))) h) : am_M i_X3_standsOf [.int k, .int f] h K := by
  refine e_X3_standsOf [] ?_
  conv => whnf
  refine ⟨fun (s10_1 : _ = nI 1) => ?_, fun (s10_1 : ¬ _ = nI 1) => ?_⟩
  · conv => whnf
    refine b_X3_standsOf [] ?_
    conv => whnf
    rw [fStands, if_pos s10_1] at hK; exact hK
  conv => whnf
  refine ⟨fun (s10_2 : _ = nI 2) => ?_, fun (s10_2 : ¬ _ = nI 2) => ?_⟩
  · conv => whnf
    refine b_X3_standsOf [] ?_
    conv => whnf
    rw [fStands, if_neg s10_1, if_pos s10_2] at hK; exact hK
  conv => whnf
  refine ⟨fun (s10_3 : _ = nI 3) => ?_, fun (s10_3 : ¬ _ = nI 3) => ?_⟩
  · conv => whnf
    refine b_X3_standsOf [] ?_
    conv => whnf
    refine ⟨(by decide), ?_⟩
    conv => whnf
    rw [fStands, if_neg s10_1, if_neg s10_2, if_pos s10_3] at hK; exact hK
  conv => whnf
  refine ⟨fun (s10_4 : _ = nI 4) => ?_, fun (s10_4 : ¬ _ = nI 4) => ?_⟩
  · conv => whnf
    refine b_X3_standsOf [] ?_
    conv => whnf
    rw [fStands, if_neg s10_1, if_neg s10_2, if_neg s10_3, if_pos s10_4] at hK; exact hK
  conv => whnf
  refine ⟨fun (s10_5 : _ = nI 5) => ?_, fun (s10_5 : ¬ _ = nI 5) => ?_⟩
  · conv => whnf
    refine b_X3_standsOf [] ?_
    conv => whnf
    rw [fStands, if_neg s10_1, if_neg s10_2, if_neg s10_3, if_neg s10_4, if_pos s10_5] at hK; exact hK
  conv => whnf
  refine b_X3_standsOf [] ?_
  conv => whnf
  rw [fStands, if_neg s10_1, if_neg s10_2, if_neg s10_3, if_neg s10_4, if_neg s10_5] at hK; exact hK
def fJump (k v : Int32) : Int32 := if 0 < v then (if k = nI 1 then v / nI 2 + nI 1 else if k = nI 2 then v / nI 3 else if k = nI 3 then nI 2 * (v / nI 2 + nI 1) else if k = nI 4 then nI 0 else if k = nI 5 then v / nI 2 + nI 1 else v / nI 2) else nI 0
theorem s_jumpBy {k v : Int32} {h : AH} {K : Option Value → AH → Prop} (hK : K (some (.int (fJump k v))) h) : am_M i_X3_jumpBy [.int k, .int v] h K := by
  refine e_X3_jumpBy [] ?_
  conv => whnf
  refine ⟨fun c1 => ?_, fun c1 => ?_⟩
  · refine b_X3_jumpBy [] ?_
    conv => whnf
    refine ⟨(by decide), ?_⟩
    conv => whnf
    refine ⟨fun (s15_1 : _ = nI 1) => ?_, fun (s15_1 : ¬ _ = nI 1) => ?_⟩
    · conv => whnf
      refine b_X3_jumpBy [] ?_
      conv => whnf
      rw [fJump, if_pos c1] at hK; rw [if_pos s15_1] at hK; exact hK
    conv => whnf
    refine ⟨fun (s15_2 : _ = nI 2) => ?_, fun (s15_2 : ¬ _ = nI 2) => ?_⟩
    · conv => whnf
      refine b_X3_jumpBy [] ?_
      conv => whnf
      refine ⟨(by decide), ?_⟩
      conv => whnf
      rw [fJump, if_pos c1] at hK; rw [if_neg s15_1, if_pos s15_2] at hK; exact hK
    conv => whnf
    refine ⟨fun (s15_3 : _ = nI 3) => ?_, fun (s15_3 : ¬ _ = nI 3) => ?_⟩
    · conv => whnf
      refine b_X3_jumpBy [] ?_
      conv => whnf
      rw [fJump, if_pos c1] at hK; rw [if_neg s15_1, if_neg s15_2, if_pos s15_3] at hK; exact hK
    conv => whnf
    refine ⟨fun (s15_4 : _ = nI 4) => ?_, fun (s15_4 : ¬ _ = nI 4) => ?_⟩
    · conv => whnf
      refine b_X3_jumpBy [] ?_
      conv => whnf
      rw [fJump, if_pos c1] at hK; rw [if_neg s15_1, if_neg s15_2, if_neg s15_3, if_pos s15_4] at hK; exact hK
    conv => whnf
    refine ⟨fun (s15_5 : _ = nI 5) => ?_, fun (s15_5 : ¬ _ = nI 5) => ?_⟩
    · conv => whnf
      refine b_X3_jumpBy [] ?_
      conv => whnf
      rw [fJump, if_pos c1] at hK; rw [if_neg s15_1, if_neg s15_2, if_neg s15_3, if_neg s15_4, if_pos s15_5] at hK; exact hK
    conv => whnf
    refine b_X3_jumpBy [] ?_
    conv => whnf
    rw [fJump, if_pos c1] at hK; rw [if_neg s15_1, if_neg s15_2, if_neg s15_3, if_neg s15_4, if_neg s15_5] at hK; exact hK
  · conv => whnf
    rw [fJump, if_neg c1] at hK; exact hK
theorem s_isBroken {h : AH} {a : Nat} {t br cu dy x : Int32} {fs : List Value} (hh : nth h a = some (.inr (.inr (9, .int t :: .int br :: .int cu :: .int dy :: fs)))) {K : Option Value → AH → Prop} (hK : K (some (.int (bI (hasB br x)))) h) : am_M i_X10_isBroken [.ref a, .int x] h K := by
  refine e_X10_isBroken [] ?_
  conv => whnf
  refine am_hgn hh ?_
  conv => whnf
  refine ⟨fun c8 => ?_, fun c8 => ?_⟩
  · refine b_X10_isBroken [] ?_
    conv => whnf
    refine ⟨(by first | exact Or.inl nI_0 | exact Or.inr nI_one | assumption), ?_⟩
    rw [hasB_f c8] at hK; exact hK
  · conv => whnf
    refine b_X10_isBroken [] ?_
    conv => whnf
    refine ⟨(by first | exact Or.inl nI_0 | exact Or.inr nI_one | assumption), ?_⟩
    rw [hasB_t c8] at hK; exact hK
def fCut (cu x : Int32) : Bool := !(decide (x < 0)) && hasB cu x
theorem s_isCut {h : AH} {a : Nat} {t br cu dy x : Int32} {fs : List Value} (hh : nth h a = some (.inr (.inr (9, .int t :: .int br :: .int cu :: .int dy :: fs)))) {K : Option Value → AH → Prop} (hK : K (some (.int (bI (fCut cu x)))) h) : am_M i_X10_isCut [.ref a, .int x] h K := by
  refine e_X10_isCut [] ?_
  conv => whnf
  refine ⟨fun c1 => ?_, fun c1 => ?_⟩
  · refine b_X10_isCut [] ?_
    conv => whnf
    refine ⟨(by first | exact Or.inl nI_0 | exact Or.inr nI_one | assumption), ?_⟩
    simp only [fCut, c1, decide_true, Bool.not_true, Bool.false_and] at hK; exact hK
  · conv => whnf
    refine am_hgn hh ?_
    conv => whnf
    refine ⟨fun c12 => ?_, fun c12 => ?_⟩
    · refine b_X10_isCut [] ?_
      conv => whnf
      refine ⟨(by first | exact Or.inl nI_0 | exact Or.inr nI_one | assumption), ?_⟩
      simp only [fCut, c1, hasB_f c12, decide_false, Bool.not_false, Bool.true_and] at hK; exact hK
    · conv => whnf
      refine b_X10_isCut [] ?_
      conv => whnf
      refine ⟨(by first | exact Or.inl nI_0 | exact Or.inr nI_one | assumption), ?_⟩
      simp only [fCut, c1, hasB_t c12, decide_false, Bool.not_false, Bool.true_and] at hK; exact hK
def fNoTh (t x : Int32) : Int32 := if x < 0 then Int32.ofInt (-1) else if x < t then nI 0 else Int32.ofInt (-1)
theorem s_noThing {h : AH} {a : Nat} {t br cu dy x : Int32} {fs : List Value} (hh : nth h a = some (.inr (.inr (9, .int t :: .int br :: .int cu :: .int dy :: fs)))) {K : Option Value → AH → Prop} (hK : K (some (.int (fNoTh t x))) h) : am_M i_X10_noThing [.ref a, .int x] h K := by
  refine e_X10_noThing [] ?_
  conv => whnf
  refine ⟨fun c1 => ?_, fun c1 => ?_⟩
  · refine b_X10_noThing [] ?_
    conv => whnf
    refine b_X10_noThing [] ?_
    conv => whnf
    simp only [fNoTh, c1, ↓reduceIte] at hK; exact hK
  · conv => whnf
    refine am_hgn hh ?_
    conv => whnf
    refine ⟨fun c9 => ?_, fun c9 => ?_⟩
    · refine b_X10_noThing [] ?_
      conv => whnf
      simp only [fNoTh, c1, c9, ↓reduceIte] at hK; exact hK
    · conv => whnf
      refine b_X10_noThing [] ?_
      conv => whnf
      simp only [fNoTh, c1, c9, ↓reduceIte] at hK; exact hK
theorem s_noLink {h : AH} {a : Nat} {t br cu dy x : Int32} {fs : List Value} (hh : nth h a = some (.inr (.inr (9, .int t :: .int br :: .int cu :: .int dy :: fs)))) {K : Option Value → AH → Prop} (hK : K (some (.int (fNoTh (t - nI 1) x))) h) : am_M i_X10_noLink [.ref a, .int x] h K := by
  refine e_X10_noLink [] ?_
  conv => whnf
  refine ⟨fun c1 => ?_, fun c1 => ?_⟩
  · refine b_X10_noLink [] ?_
    conv => whnf
    refine b_X10_noLink [] ?_
    conv => whnf
    simp only [fNoTh, c1, ↓reduceIte] at hK; exact hK
  · conv => whnf
    refine am_hgn hh ?_
    conv => whnf
    refine ⟨fun c11 => ?_, fun c11 => ?_⟩
    · refine b_X10_noLink [] ?_
      conv => whnf
      simp only [fNoTh, c1, c11, ↓reduceIte] at hK; exact hK
    · conv => whnf
      refine b_X10_noLink [] ?_
      conv => whnf
      simp only [fNoTh, c1, c11, ↓reduceIte] at hK; exact hK
def ushr (x : Int32) (k : Nat) : Int32 := (x.toUInt32 >>> ((nI k).toUInt32 &&& Int32.toUInt32 31)).toInt32
def fBc1 (x : Int32) : Int32 := x - (ushr x 1 &&& nI 1431655765)
def fBc2 (x : Int32) : Int32 := (x &&& nI 858993459) + (ushr x 2 &&& nI 858993459)
def fBc3 (x : Int32) : Int32 := x + ushr x 4 &&& nI 252645135
def fBc4 (x : Int32) : Int32 := x + ushr x 8
def fBc5 (x : Int32) : Int32 := x + ushr x 16
def fBc (x : Int32) : Int32 := fBc5 (fBc4 (fBc3 (fBc2 (fBc1 x)))) &&& nI 63
theorem s_bc {x : Int32} {h : AH} {K : Option Value → AH → Prop} (hK : K (some (.int (fBc x))) h) : am_M i_J6_bitCount_0f7a4 [.int x] h K := by
  refine e_J6_bitCount_0f7a4 [] ?_
  conv => whnf
  exact hK
def ushrL (x : Int64) (k : Nat) : Int64 := (x.toUInt64 >>> ((nI k).toInt64.toUInt64 &&& Int64.toUInt64 63)).toInt64
def fBl1 (x : Int64) : Int64 := x - (ushrL x 1 &&& Int64.ofNat 6148914691236517205)
def fBl2 (x : Int64) : Int64 := (x &&& Int64.ofNat 3689348814741910323) + (ushrL x 2 &&& Int64.ofNat 3689348814741910323)
def fBl3 (x : Int64) : Int64 := x + ushrL x 4 &&& Int64.ofNat 1085102592571150095
def fBl4 (x : Int64) : Int64 := x + ushrL x 8
def fBl5 (x : Int64) : Int64 := x + ushrL x 16
def fBl6 (x : Int64) : Int64 := x + ushrL x 32
def fBl (x : Int64) : Int32 := (fBl6 (fBl5 (fBl4 (fBl3 (fBl2 (fBl1 x)))))).toInt32 &&& nI 127
theorem s_bcL {x : Int64} {h : AH} {K : Option Value → AH → Prop} (hK : K (some (.int (fBl x))) h) : am_M i_J13_bitCount_95d88 [.long x] h K := by
  refine e_J13_bitCount_95d88 [] ?_
  conv => whnf
  exact hK
