/-! SPECS: the object's changes -/
def wat (W : Nat → WS) : Prop := wEx (W 0) ((W 0).1 0).toNatClampNeg
set_option maxRecDepth 100000 in
theorem s_rtl {W : Nat → WS} {S : Nat → S3} {A : Nat → Nat → Int32} {I : Nat → Int32} {B : Nat → Int32 × Int32} {L : Nat → Int64} {K : Option Value → AH → Prop} (hK : K (some (.int (if I 1 ≤ (W 0).1 0 then nI 0 else Int32.ofInt (-3)))) (gC (W) (S) (A) (I) (B) (L))) : am_M i_X11_rowTooLong [.ref 0] (gC (W) (S) (A) (I) (B) (L)) K := by
  refine e_X11_rowTooLong [] ?_
  conv => whnf
  refine ⟨fun c14 => ?_, fun c14 => ?_⟩
  · refine b_X11_rowTooLong [] ?_
    conv => whnf
    rw [if_pos c14] at hK
    exact hK
  · conv => whnf
    refine b_X11_rowTooLong [] ?_
    conv => whnf
    rw [if_neg c14] at hK
    exact hK
