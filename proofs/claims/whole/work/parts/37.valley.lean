/-! SPECS: the valley's letters -/
def dgB (x : Int32) : Int32 := if x = nI 99 then nI 1 else if x = nI 100 then nI 3 else if x = nI 109 then nI 1 else if x = nI 116 then nI 3 else if x = nI 120 then nI 2 else nI 0
def isD (x : Int32) : Bool := if x < nI 48 then false else if nI 57 < x then false else true
def vAt (h : AH) (a la ta ua : Nat) (tl : Int32) (f : Nat → Int32) : Prop := nth h a = some (.inr (.inr (7, [.ref la, .ref ta, .ref ua, .int tl]))) ∧ nth h la = some (.inl (96, f))
def dgt (tl : Int32) (f : Nat → Int32) (x : Int32) : Int32 := if tl ≤ x then Int32.ofInt (-9) else f x.toNatClampNeg - nI 48
theorem s_isD {h : AH} {x : Int32} {K : Option Value → AH → Prop} (hK : K (some (.int (bI (isD x)))) h) : am_M i_X8_isDigit [.int x] h K := by
  refine e_X8_isDigit [] ?_
  conv => whnf
  refine ⟨fun c3 => ?_, fun c3 => ?_⟩
  · refine b_X8_isDigit [] ?_
    conv => whnf
    refine ⟨(by first | exact Or.inl nI_0 | exact Or.inr nI_one | assumption), ?_⟩
    rw [isD, if_pos c3] at hK
    exact hK
  · conv => whnf
    refine ⟨fun c9 => ?_, fun c9 => ?_⟩
    · refine b_X8_isDigit [] ?_
      conv => whnf
      refine ⟨(by first | exact Or.inl nI_0 | exact Or.inr nI_one | assumption), ?_⟩
      rw [isD, if_neg c3, if_pos c9] at hK
      exact hK
    · conv => whnf
      refine b_X8_isDigit [] ?_
      conv => whnf
      refine ⟨(by first | exact Or.inl nI_0 | exact Or.inr nI_one | assumption), ?_⟩
      rw [isD, if_neg c3, if_neg c9] at hK
      exact hK
theorem s_dgt {h : AH} {a la ta ua : Nat} {tl : Int32} {f : Nat → Int32} (hv : vAt h a la ta ua tl f) {x : Int32} (hx : ¬ tl ≤ x → vp_in x 96) {K : Option Value → AH → Prop} (hK : K (some (.int (dgt tl f x))) h) : am_M i_X8_digit [.ref a, .int x] h K := by
  refine e_X8_digit [] ?_
  conv => whnf
  refine am_hgn hv.1 ?_
  conv => whnf
  refine ⟨fun c5 => ?_, fun c5 => ?_⟩
  · refine b_X8_digit [] ?_
    conv => whnf
    rw [dgt, if_pos c5] at hK
    exact hK
  · conv => whnf
    refine am_hgn hv.1 ?_
    conv => whnf
    refine am_hgn hv.2 ?_
    conv => whnf
    refine ⟨(hx c5), ?_⟩
    conv => whnf
    refine b_X8_digit [] ?_
    conv => whnf
    rw [dgt, if_neg c5] at hK
    exact hK
theorem s_dgB {h : AH} {x : Int32} {K : Option Value → AH → Prop} (hK : K (some (.int (dgB x))) h) : am_M i_X8_digitsBehind [.int x] h K := by
  refine e_X8_digitsBehind [] ?_
  conv => whnf
  refine ⟨fun (s1_99 : _ = nI 99) => ?_, fun (s1_99 : ¬ _ = nI 99) => ?_⟩
  · conv => whnf
    refine b_X8_digitsBehind [] ?_
    conv => whnf
    rw [dgB, if_pos s1_99] at hK
    exact hK
  conv => whnf
  refine ⟨fun (s1_100 : _ = nI 100) => ?_, fun (s1_100 : ¬ _ = nI 100) => ?_⟩
  · conv => whnf
    refine b_X8_digitsBehind [] ?_
    conv => whnf
    rw [dgB, if_neg s1_99, if_pos s1_100] at hK
    exact hK
  conv => whnf
  refine ⟨fun (s1_109 : _ = nI 109) => ?_, fun (s1_109 : ¬ _ = nI 109) => ?_⟩
  · conv => whnf
    refine b_X8_digitsBehind [] ?_
    conv => whnf
    rw [dgB, if_neg s1_99, if_neg s1_100, if_pos s1_109] at hK
    exact hK
  conv => whnf
  refine ⟨fun (s1_116 : _ = nI 116) => ?_, fun (s1_116 : ¬ _ = nI 116) => ?_⟩
  · conv => whnf
    refine b_X8_digitsBehind [] ?_
    conv => whnf
    rw [dgB, if_neg s1_99, if_neg s1_100, if_neg s1_109, if_pos s1_116] at hK
    exact hK
  conv => whnf
  refine ⟨fun (s1_120 : _ = nI 120) => ?_, fun (s1_120 : ¬ _ = nI 120) => ?_⟩
  · conv => whnf
    refine b_X8_digitsBehind [] ?_
    conv => whnf
    rw [dgB, if_neg s1_99, if_neg s1_100, if_neg s1_109, if_neg s1_116, if_pos s1_120] at hK
    exact hK
  conv => whnf
  refine b_X8_digitsBehind [] ?_
  conv => whnf
  rw [dgB, if_neg s1_99, if_neg s1_100, if_neg s1_109, if_neg s1_116, if_neg s1_120] at hK
  exact hK
def blI (tl : Int32) (f : Nat → Int32) (x : Int32) : Int32 := nI 10 * dgt tl f (x + nI 2) + dgt tl f (x + nI 3)
theorem s_blI {h : AH} {a la ta ua : Nat} {tl : Int32} {f : Nat → Int32} (hv : vAt h a la ta ua tl f) {x : Int32} (hx : ¬ tl ≤ x + nI 2 → vp_in (x + nI 2) 96) (hy : ¬ tl ≤ x + nI 3 → vp_in (x + nI 3) 96) {K : Option Value → AH → Prop} (hK : K (some (.int (blI tl f x))) h) : am_M i_X8_blowIn [.ref a, .int x] h K := by
  refine e_X8_blowIn [] ?_
  conv => whnf
  refine am_hgn hv.1 ?_
  conv => whnf
  refine s_dgt hv hx ?_
  refine b_X8_blowIn [] ?_
  conv => whnf
  refine am_hgn hv.1 ?_
  conv => whnf
  refine s_dgt hv hy ?_
  refine b_X8_blowIn [] ?_
  conv => whnf
  exact hK
