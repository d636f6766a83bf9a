/-! SPECS: the whole object -/
def gO (hi : Int32) : AC := .inr (.inr (10, [.ref 1, .ref 10, .int hi, .ref 70, .ref 60, .ref 16, .ref 7, .ref 18, .ref 28, .ref 40, .ref 51, .ref 9]))
def kA (i : Nat) : Option Nat := if i < 8 then some (72 + 6 * i) else none
def gC (W : Nat → WS) (S : Nat → S3) (A : Nat → Nat → Int32) (I : Nat → Int32) (B : Nat → Int32 × Int32) (L : Nat → Int64) : AH := [gO (I 0), wO 1 (W 0), .inl (8, (W 0).2 0), .inl (8, (W 0).2 1), .inl (8, (W 0).2 2), .inl (8, (W 0).2 3), .inl (8, (W 0).2 4), .inr (.inr (8, [.ref 8, .int (S 0).2.1, .int (S 0).2.2])), .inl (8, (S 0).1), .inl (7, A 0), wO 10 (W 1), .inl (8, (W 1).2 0), .inl (8, (W 1).2 1), .inl (8, (W 1).2 2), .inl (8, (W 1).2 3), .inl (8, (W 1).2 4), .inr (.inr (6, [.ref 17, .int (I 1)])), .inl (12, A 1), .inr (.inr (1, [.ref 19, .ref 21, .ref 27, .int (I 5), .int (I 6), .int (I 7)])), .inr (.inr (8, [.ref 20, .int (S 1).2.1, .int (S 1).2.2])), .inl (8, (S 1).1), wO 21 (W 2), .inl (8, (W 2).2 0), .inl (8, (W 2).2 1), .inl (8, (W 2).2 2), .inl (8, (W 2).2 3), .inl (8, (W 2).2 4), bO (B 0), .inr (.inr (5, [.ref 29, .ref 31, .ref 37, .ref 38, .ref 39])), .inr (.inr (8, [.ref 30, .int (S 2).2.1, .int (S 2).2.2])), .inl (8, (S 2).1), wO 31 (W 3), .inl (8, (W 3).2 0), .inl (8, (W 3).2 1), .inl (8, (W 3).2 2), .inl (8, (W 3).2 3), .inl (8, (W 3).2 4), bO (B 1), .inl (8, A 2), .inl (64, A 3), .inr (.inr (3, [.ref 41, .ref 43, .ref 49, .ref 50])), .inr (.inr (8, [.ref 42, .int (S 3).2.1, .int (S 3).2.2])), .inl (8, (S 3).1), wO 43 (W 4), .inl (8, (W 4).2 0), .inl (8, (W 4).2 1), .inl (8, (W 4).2 2), .inl (8, (W 4).2 3), .inl (8, (W 4).2 4), .inl (8, A 4), .inl (8, A 5), .inr (.inr (2, [.ref 52, .ref 54, .int (I 8), .long (L 0), .long (L 1), .int (I 9), .int (I 10)])), .inr (.inr (8, [.ref 53, .int (S 4).2.1, .int (S 4).2.2])), .inl (8, (S 4).1), wO 54 (W 5), .inl (8, (W 5).2 0), .inl (8, (W 5).2 1), .inl (8, (W 5).2 2), .inl (8, (W 5).2 3), .inl (8, (W 5).2 4), .inr (.inr (7, [.ref 61, .ref 62, .ref 68, .int (I 2)])), .inl (96, A 6), wO 62 (W 6), .inl (8, (W 6).2 0), .inl (8, (W 6).2 1), .inl (8, (W 6).2 2), .inl (8, (W 6).2 3), .inl (8, (W 6).2 4), .inr (.inr (8, [.ref 69, .int (S 5).2.1, .int (S 5).2.2])), .inl (8, (S 5).1), .inr (.inr (4, [.ref 71, .int (I 3), .int (I 4)])), .inr (.inl (8, kA)), wO 72 (W 7), .inl (8, (W 7).2 0), .inl (8, (W 7).2 1), .inl (8, (W 7).2 2), .inl (8, (W 7).2 3), .inl (8, (W 7).2 4), wO 78 (W 8), .inl (8, (W 8).2 0), .inl (8, (W 8).2 1), .inl (8, (W 8).2 2), .inl (8, (W 8).2 3), .inl (8, (W 8).2 4), wO 84 (W 9), .inl (8, (W 9).2 0), .inl (8, (W 9).2 1), .inl (8, (W 9).2 2), .inl (8, (W 9).2 3), .inl (8, (W 9).2 4), wO 90 (W 10), .inl (8, (W 10).2 0), .inl (8, (W 10).2 1), .inl (8, (W 10).2 2), .inl (8, (W 10).2 3), .inl (8, (W 10).2 4), wO 96 (W 11), .inl (8, (W 11).2 0), .inl (8, (W 11).2 1), .inl (8, (W 11).2 2), .inl (8, (W 11).2 3), .inl (8, (W 11).2 4), wO 102 (W 12), .inl (8, (W 12).2 0), .inl (8, (W 12).2 1), .inl (8, (W 12).2 2), .inl (8, (W 12).2 3), .inl (8, (W 12).2 4), wO 108 (W 13), .inl (8, (W 13).2 0), .inl (8, (W 13).2 1), .inl (8, (W 13).2 2), .inl (8, (W 13).2 3), .inl (8, (W 13).2 4), wO 114 (W 14), .inl (8, (W 14).2 0), .inl (8, (W 14).2 1), .inl (8, (W 14).2 2), .inl (8, (W 14).2 3), .inl (8, (W 14).2 4)]
def refU (x : Int32) (f : Nat → Int32) : Nat → Int32 := if 0 ≤ x then f else if x < Int32.ofInt (-6) then f else upd f (0 - x).toNatClampNeg (f (0 - x).toNatClampNeg + nI 1)
set_option maxRecDepth 100000 in
theorem s_refuse {W : Nat → WS} {S : Nat → S3} {A : Nat → Nat → Int32} {I : Nat → Int32} {B : Nat → Int32 × Int32} {L : Nat → Int64} {x : Int32} (hx : ¬ 0 ≤ x → ¬ x < Int32.ofInt (-6) → vp_in (0 - x) 7) {K : Option Value → AH → Prop} (hK : K (some (.int (x))) (gC (W) (S) (va_up A 0 (refU x (A 0))) (I) (B) (L))) : am_M i_X11_refuse [.ref 0, .int x] (gC (W) (S) (A) (I) (B) (L)) K := by
  refine e_X11_refuse [] ?_
  conv => whnf
  refine ⟨fun c1 => ?_, fun c1 => ?_⟩
  · refine b_X11_refuse [] ?_
    conv => whnf
    rw [refU, if_pos c1] at hK
    exact hK
  · conv => whnf
    refine ⟨fun c7 => ?_, fun c7 => ?_⟩
    · refine b_X11_refuse [] ?_
      conv => whnf
      rw [refU, if_neg c1, if_pos c7] at hK
      exact hK
    · conv => whnf
      refine ⟨(hx c1 c7), ?_⟩
      conv => whnf
      refine ⟨(hx c1 c7), ?_⟩
      conv => whnf
      rw [refU, if_neg c1, if_neg c7] at hK
      exact hK
