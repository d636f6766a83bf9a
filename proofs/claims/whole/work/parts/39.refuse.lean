/-! SPECS: a statement's refusal -/
theorem vIl {q : Nat} (hq : q ≤ 96) {j : Nat} (hj : j < 2 ^ 30) : ¬ nI q ≤ nI j → vp_in (nI j) 96 := fun h => vp_in_nI (by have : ¬ q ≤ j := fun z => h (nI_le z (by omega)); omega) (by decide)
def refF (w : WS) (tl : Int32) (f : Nat → Int32) (s : Nat) : Int32 :=
  if f s = nI 99 then fNoTh (w.1 0 - nI 1) (dgt tl f (nI s + nI 1))
  else if f s = nI 100 then fDropR (w.1 0) (w.1 1) (w.1 3) (dgt tl f (nI s + nI 1)) (blI tl f (nI s))
  else if f s = nI 109 then fMendR (w.1 0) (w.1 1) (dgt tl f (nI s + nI 1))
  else if f s = nI 116 then fJoinR (w.1 0) (dgt tl f (nI s + nI 1)) (dgt tl f (nI s + nI 2)) (dgt tl f (nI s + nI 3))
  else fChgR (w.1 0) (dgt tl f (nI s + nI 1)) (dgt tl f (nI s + nI 2))
theorem s_ref {h : AH} {a la ta ua q : Nat} {f : Nat → Int32} (hv : vAt h a la ta ua (nI q) f) (hq : q ≤ 96) {w : WS} {r : Nat → Nat} {st : Nat} (hw : wAt h ta w r) (hs : st < q) {K : Option Value → AH → Prop} (hK : K (some (.int (refF w (nI q) f st))) h) : am_M i_X8_refusalOf [.ref a, .int (nI st)] h K := by
  have e : (nI st).toNatClampNeg = st := nI_clamp (by omega)
  refine e_X8_refusalOf [] ?_
  conv => whnf
  refine am_hgn hv.1 ?_
  conv => whnf
  refine s_dgt hv (by rw [nI_add]; exact vIl hq (by omega)) ?_
  refine b_X8_refusalOf [] ?_
  conv => whnf
  refine am_hgn hv.1 ?_
  conv => whnf
  refine am_hgn hv.2 ?_
  conv => whnf
  refine ⟨(vp_in_nI (by omega) (by decide)), ?_⟩
  conv => whnf
  rw [e]
  refine ⟨fun (s14_99 : _ = nI 99) => ?_, fun (s14_99 : ¬ _ = nI 99) => ?_⟩
  · conv => whnf
    refine b_X8_refusalOf [] ?_
    conv => whnf
    refine am_hgn hv.1 ?_
    conv => whnf
    refine am_hgn hw.1 ?_
    conv => whnf
    refine s_noLink hw.1 ?_
    refine b_X8_refusalOf [] ?_
    conv => whnf
    rw [refF, if_pos s14_99] at hK
    exact hK
  conv => whnf
  refine ⟨fun (s14_100 : _ = nI 100) => ?_, fun (s14_100 : ¬ _ = nI 100) => ?_⟩
  · conv => whnf
    refine b_X8_refusalOf [] ?_
    conv => whnf
    refine am_hgn hv.1 ?_
    conv => whnf
    refine am_hgn hv.1 ?_
    conv => whnf
    refine s_blI hv (by rw [nI_add]; exact vIl hq (by omega)) (by rw [nI_add]; exact vIl hq (by omega)) ?_
    refine b_X8_refusalOf [] ?_
    conv => whnf
    refine am_hgn hw.1 ?_
    conv => whnf
    refine s_dropR hw ?_
    refine b_X8_refusalOf [] ?_
    conv => whnf
    rw [refF, if_neg s14_99, if_pos s14_100] at hK
    exact hK
  conv => whnf
  refine ⟨fun (s14_109 : _ = nI 109) => ?_, fun (s14_109 : ¬ _ = nI 109) => ?_⟩
  · conv => whnf
    refine b_X8_refusalOf [] ?_
    conv => whnf
    refine am_hgn hv.1 ?_
    conv => whnf
    refine am_hgn hw.1 ?_
    conv => whnf
    refine s_mendR hw ?_
    refine b_X8_refusalOf [] ?_
    conv => whnf
    rw [refF, if_neg s14_99, if_neg s14_100, if_pos s14_109] at hK
    exact hK
  conv => whnf
  refine ⟨fun (s14_116 : _ = nI 116) => ?_, fun (s14_116 : ¬ _ = nI 116) => ?_⟩
  · conv => whnf
    refine b_X8_refusalOf [] ?_
    conv => whnf
    refine am_hgn hv.1 ?_
    conv => whnf
    refine am_hgn hv.1 ?_
    conv => whnf
    refine s_dgt hv (by rw [nI_add]; exact vIl hq (by omega)) ?_
    refine b_X8_refusalOf [] ?_
    conv => whnf
    refine am_hgn hv.1 ?_
    conv => whnf
    refine s_dgt hv (by rw [nI_add]; exact vIl hq (by omega)) ?_
    refine b_X8_refusalOf [] ?_
    conv => whnf
    refine am_hgn hw.1 ?_
    conv => whnf
    refine s_joinR hw ?_
    refine b_X8_refusalOf [] ?_
    conv => whnf
    rw [refF, if_neg s14_99, if_neg s14_100, if_neg s14_109, if_pos s14_116] at hK
    exact hK
  conv => whnf
  refine b_X8_refusalOf [] ?_
  conv => whnf
  refine am_hgn hv.1 ?_
  conv => whnf
  refine am_hgn hv.1 ?_
  conv => whnf
  refine s_dgt hv (by rw [nI_add]; exact vIl hq (by omega)) ?_
  refine b_X8_refusalOf [] ?_
  conv => whnf
  refine am_hgn hw.1 ?_
  conv => whnf
  refine s_chgR hw ?_
  refine b_X8_refusalOf [] ?_
  conv => whnf
  rw [refF, if_neg s14_99, if_neg s14_100, if_neg s14_109, if_neg s14_116] at hK
  exact hK
