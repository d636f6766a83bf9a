/-! SPECS: the object's changes -/
def hst (h : Nat → WS) (sz : Nat) (w : WS) (k : Nat) : WS := if sz < 8 then (if k = sz then w else h k) else if k = 7 then w else h (k + 1)
/-- now kept, a copy w of it -/
def kpA (a : Ab) (w : WS) : Ab := (fun i => if i < 2 then a.1 i else hst (fun k => a.1 (2 + k)) (a.2.2 3) w (i - 2), a.2.1, va_up a.2.2 3 (min (a.2.2 3 + 1) 8))
def nowA (a : Ab) (w : WS) : Ab := (va_up a.1 0 w, a.2.1, a.2.2)
def fgA (a : Ab) (k : Nat) : Ab := (a.1, a.2.1, va_up a.2.2 3 k)
theorem CX.now {a : Ab} {W : Nat → WS} {A : Nat → Nat → Int32} {I : Nat → Int32} (h : CX a W A I) (z : WS) : CX (nowA a z) (va_up W 0 z) A I := by
  obtain ⟨a1, a2, a3, a4, a5, a6, a7, a8, a9, x, b1, b2, b3⟩ := h
  have e : ∀ j, j ≠ 0 → va_up W 0 z j = W j := fun j hj => if_neg hj
  have e2 : ∀ j, j ≠ 0 → va_up a.1 0 z j = a.1 j := fun j hj => if_neg hj
  refine ⟨rfl, (e 1 (by omega)).trans (a2.trans (e2 1 (by omega)).symm), a3, a4, a5, a6, a7, a8, a9, x, b1, b2, fun k hk => ?_⟩
  show va_up W 0 z (7 + (x + 8 - a.2.2 3 + k) % 8) = va_up a.1 0 z (2 + k)
  rw [e _ (by omega), e2 _ (by omega)]
  exact b3 k hk
theorem CX.kp {a : Ab} {W : Nat → WS} {A : Nat → Nat → Int32} {I : Nat → Int32} {x : Nat} (h : CX a W A I) (hx : x < 8) (hx3 : I 3 = nI x) (hs : a.2.2 3 ≤ 8) (z : WS) : CX (kpA a z) (va_up W (7 + x) z) A (va_up (va_up I 3 (nI ((x + 1) % 8))) 4 (nI (min (a.2.2 3 + 1) 8))) := by
  obtain ⟨a1, a2, a3, a4, a5, a6, a7, a8, a9, x2, b1, b2, b3⟩ := h
  have : x2 = x := (nI_eq (by omega) (by omega)).mp (b2.symm.trans hx3)
  subst this
  have e : ∀ j, j ≠ 7 + x2 → va_up W (7 + x2) z j = W j := fun j hj => if_neg hj
  have e3 : ∀ j, j < 3 → va_up (va_up I 3 (nI ((x2 + 1) % 8))) 4 (nI (min (a.2.2 3 + 1) 8)) j = I j := fun j hj => by
    show va_up (va_up I 3 _) 4 _ j = _
    unfold va_up
    rw [if_neg (by omega), if_neg (by omega)]
  refine ⟨(e 0 (by omega)).trans a1, (e 1 (by omega)).trans a2, a3, a4, a5, (e3 0 (by omega)).trans a6, (e3 1 (by omega)).trans a7, (e3 2 (by omega)).trans a8, rfl, (x2 + 1) % 8, by omega, rfl, fun k hk => ?_⟩
  have hk : k < min (a.2.2 3 + 1) 8 := hk
  show va_up W (7 + x2) z (7 + ((x2 + 1) % 8 + 8 - min (a.2.2 3 + 1) 8 + k) % 8) = (if 2 + k < 2 then a.1 (2 + k) else hst (fun k => a.1 (2 + k)) (a.2.2 3) z (2 + k - 2))
  rw [if_neg (by omega), Nat.add_sub_cancel_left]
  unfold hst
  by_cases h8 : a.2.2 3 < 8
  · rw [if_pos h8]
    by_cases hk2 : k = a.2.2 3
    · rw [if_pos hk2, show 7 + ((x2 + 1) % 8 + 8 - min (a.2.2 3 + 1) 8 + k) % 8 = 7 + x2 by omega]
      exact if_pos rfl
    · rw [if_neg hk2, e _ (by omega)]
      refine Eq.trans ?_ (b3 k (by omega))
      congr 1
      omega
  · rw [if_neg h8]
    by_cases hk2 : k = 7
    · rw [if_pos hk2, show 7 + ((x2 + 1) % 8 + 8 - min (a.2.2 3 + 1) 8 + k) % 8 = 7 + x2 by omega]
      exact if_pos rfl
    · rw [if_neg hk2, e _ (by omega)]
      refine Eq.trans ?_ (b3 (k + 1) (by omega))
      congr 1
      omega
theorem CX.bk {a : Ab} {W : Nat → WS} {A : Nat → Nat → Int32} {I : Nat → Int32} {x : Nat} (h : CX a W A I) (hx : x < 8) (hx3 : I 3 = nI x) (hs : a.2.2 3 ≤ 8) (h0 : 0 < a.2.2 3) (z : WS) : CX (fgA (nowA a z) (a.2.2 3 - 1)) (va_up W 0 z) A (va_up (va_up I 3 (nI ((x + 7) % 8))) 4 (nI (a.2.2 3 - 1))) ∧ W (7 + (x + 7) % 8) = a.1 (2 + (a.2.2 3 - 1)) := by
  have h9 := h.now z
  obtain ⟨a1, a2, a3, a4, a5, a6, a7, a8, a9, x2, b1, b2, b3⟩ := h
  have : x2 = x := (nI_eq (by omega) (by omega)).mp (b2.symm.trans hx3)
  subst this
  have e3 : ∀ j, j < 3 → va_up (va_up I 3 (nI ((x2 + 7) % 8))) 4 (nI (a.2.2 3 - 1)) j = I j := fun j hj => by
    show va_up (va_up I 3 _) 4 _ j = _
    unfold va_up
    rw [if_neg (by omega), if_neg (by omega)]
  obtain ⟨c1, c2, -, -, -, -, -, -, -, x3, d1, d2, d3⟩ := h9
  have : x3 = x2 := (nI_eq (by omega) (by omega)).mp (d2.symm.trans hx3)
  subst this
  refine ⟨⟨c1, c2, a3, a4, a5, (e3 0 (by omega)).trans a6, (e3 1 (by omega)).trans a7, (e3 2 (by omega)).trans a8, rfl, (x3 + 7) % 8, by omega, rfl, fun k hk => ?_⟩, ?_⟩
  · have hk : k < a.2.2 3 - 1 := hk
    show va_up W 0 z (7 + ((x3 + 7) % 8 + 8 - (a.2.2 3 - 1) + k) % 8) = va_up a.1 0 z (2 + k)
    refine Eq.trans ?_ (d3 k (by show k < a.2.2 3; omega))
    congr 1
    show 7 + ((x3 + 7) % 8 + 8 - (a.2.2 3 - 1) + k) % 8 = 7 + (x3 + 8 - a.2.2 3 + k) % 8
    omega
  · rw [← b3 (a.2.2 3 - 1) (by omega)]
    congr 1
    omega
theorem CX.fg {a : Ab} {W : Nat → WS} {A : Nat → Nat → Int32} {I : Nat → Int32} (h : CX a W A I) : CX (fgA a 0) W A (va_up I 4 (nI 0)) := by
  obtain ⟨a1, a2, a3, a4, a5, a6, a7, a8, a9, x, b1, b2, b3⟩ := h
  exact ⟨a1, a2, a3, a4, a5, a6, a7, a8, rfl, x, b1, b2, fun k hk => absurd (show k < 0 from hk) (by omega)⟩
theorem kA_i {i : Nat} (h : i < 8) : kA (nI i).toNatClampNeg = some (72 + 6 * i) := by rw [nI_clamp (by omega), kA, if_pos h]
theorem mn_z {sz : Nat} (h : sz ≤ 8) : (if nI 8 < nI sz + nI 1 then nI 8 else nI sz + nI 1) = nI (min (sz + 1) 8) := by
  have : ∀ sz, sz < 9 → (if nI 8 < nI sz + nI 1 then nI 8 else nI sz + nI 1) = nI (min (sz + 1) 8) := by decide +kernel
  exact this sz (by omega)
set_option maxRecDepth 100000 in
theorem s_kp0 {W : Nat → WS} {S : Nat → S3} {A : Nat → Nat → Int32} {I : Nat → Int32} {B : Nat → Int32 × Int32} {L : Nat → Int64} {sz : Nat} (hx : I 3 = nI 0) (hs : I 4 = nI sz) (h8 : sz ≤ 8) {K : Option Value → AH → Prop} (hK : ∀ w2 y z, wEq w2 (W 0) → y = nI 1 → z = nI (min (sz + 1) 8) → K none (gC (va_up W 7 w2) S A (va_up (va_up I 3 y) 4 z) B L)) : am_M i_X5_keep [.ref 70, .ref 1] (gC W S A I B L) K := by
  refine e_X5_keep [] ?_
  conv => whnf
  refine ⟨(by rw [hx]; exact vp_in_nI (by omega) (by decide)), ?_⟩
  rw [hx, kA_i (by decide)]
  conv => whnf
  refine f_copy (w := W 7) (v := W 0) [72, 73, 74, 75, 76, 77, 1, 2, 3, 4, 5, 6] rfl rfl rfl ⟨rfl, rfl, rfl, rfl, rfl, rfl, rfl, rfl, rfl, rfl, rfl, rfl, trivial⟩ (fun w2 hw2 => ?_)
  conv => whnf
  refine b_X5_keep [] ?_
  conv => whnf
  refine ⟨(by decide), ?_⟩
  conv => whnf
  exact hK w2 _ _ hw2 (by first | decide | (rw [hx]; decide)) (by rw [hs]; exact mn_z h8)
set_option maxRecDepth 100000 in
theorem s_kp1 {W : Nat → WS} {S : Nat → S3} {A : Nat → Nat → Int32} {I : Nat → Int32} {B : Nat → Int32 × Int32} {L : Nat → Int64} {sz : Nat} (hx : I 3 = nI 1) (hs : I 4 = nI sz) (h8 : sz ≤ 8) {K : Option Value → AH → Prop} (hK : ∀ w2 y z, wEq w2 (W 0) → y = nI 2 → z = nI (min (sz + 1) 8) → K none (gC (va_up W 8 w2) S A (va_up (va_up I 3 y) 4 z) B L)) : am_M i_X5_keep [.ref 70, .ref 1] (gC W S A I B L) K := by
  refine e_X5_keep [] ?_
  conv => whnf
  refine ⟨(by rw [hx]; exact vp_in_nI (by omega) (by decide)), ?_⟩
  rw [hx, kA_i (by decide)]
  conv => whnf
  refine f_copy (w := W 8) (v := W 0) [78, 79, 80, 81, 82, 83, 1, 2, 3, 4, 5, 6] rfl rfl rfl ⟨rfl, rfl, rfl, rfl, rfl, rfl, rfl, rfl, rfl, rfl, rfl, rfl, trivial⟩ (fun w2 hw2 => ?_)
  conv => whnf
  refine b_X5_keep [] ?_
  conv => whnf
  refine ⟨(by decide), ?_⟩
  conv => whnf
  exact hK w2 _ _ hw2 (by first | decide | (rw [hx]; decide)) (by rw [hs]; exact mn_z h8)
set_option maxRecDepth 100000 in
theorem s_kp2 {W : Nat → WS} {S : Nat → S3} {A : Nat → Nat → Int32} {I : Nat → Int32} {B : Nat → Int32 × Int32} {L : Nat → Int64} {sz : Nat} (hx : I 3 = nI 2) (hs : I 4 = nI sz) (h8 : sz ≤ 8) {K : Option Value → AH → Prop} (hK : ∀ w2 y z, wEq w2 (W 0) → y = nI 3 → z = nI (min (sz + 1) 8) → K none (gC (va_up W 9 w2) S A (va_up (va_up I 3 y) 4 z) B L)) : am_M i_X5_keep [.ref 70, .ref 1] (gC W S A I B L) K := by
  refine e_X5_keep [] ?_
  conv => whnf
  refine ⟨(by rw [hx]; exact vp_in_nI (by omega) (by decide)), ?_⟩
  rw [hx, kA_i (by decide)]
  conv => whnf
  refine f_copy (w := W 9) (v := W 0) [84, 85, 86, 87, 88, 89, 1, 2, 3, 4, 5, 6] rfl rfl rfl ⟨rfl, rfl, rfl, rfl, rfl, rfl, rfl, rfl, rfl, rfl, rfl, rfl, trivial⟩ (fun w2 hw2 => ?_)
  conv => whnf
  refine b_X5_keep [] ?_
  conv => whnf
  refine ⟨(by decide), ?_⟩
  conv => whnf
  exact hK w2 _ _ hw2 (by first | decide | (rw [hx]; decide)) (by rw [hs]; exact mn_z h8)
set_option maxRecDepth 100000 in
theorem s_kp3 {W : Nat → WS} {S : Nat → S3} {A : Nat → Nat → Int32} {I : Nat → Int32} {B : Nat → Int32 × Int32} {L : Nat → Int64} {sz : Nat} (hx : I 3 = nI 3) (hs : I 4 = nI sz) (h8 : sz ≤ 8) {K : Option Value → AH → Prop} (hK : ∀ w2 y z, wEq w2 (W 0) → y = nI 4 → z = nI (min (sz + 1) 8) → K none (gC (va_up W 10 w2) S A (va_up (va_up I 3 y) 4 z) B L)) : am_M i_X5_keep [.ref 70, .ref 1] (gC W S A I B L) K := by
  refine e_X5_keep [] ?_
  conv => whnf
  refine ⟨(by rw [hx]; exact vp_in_nI (by omega) (by decide)), ?_⟩
  rw [hx, kA_i (by decide)]
  conv => whnf
  refine f_copy (w := W 10) (v := W 0) [90, 91, 92, 93, 94, 95, 1, 2, 3, 4, 5, 6] rfl rfl rfl ⟨rfl, rfl, rfl, rfl, rfl, rfl, rfl, rfl, rfl, rfl, rfl, rfl, trivial⟩ (fun w2 hw2 => ?_)
  conv => whnf
  refine b_X5_keep [] ?_
  conv => whnf
  refine ⟨(by decide), ?_⟩
  conv => whnf
  exact hK w2 _ _ hw2 (by first | decide | (rw [hx]; decide)) (by rw [hs]; exact mn_z h8)
set_option maxRecDepth 100000 in
theorem s_kp4 {W : Nat → WS} {S : Nat → S3} {A : Nat → Nat → Int32} {I : Nat → Int32} {B : Nat → Int32 × Int32} {L : Nat → Int64} {sz : Nat} (hx : I 3 = nI 4) (hs : I 4 = nI sz) (h8 : sz ≤ 8) {K : Option Value → AH → Prop} (hK : ∀ w2 y z, wEq w2 (W 0) → y = nI 5 → z = nI (min (sz + 1) 8) → K none (gC (va_up W 11 w2) S A (va_up (va_up I 3 y) 4 z) B L)) : am_M i_X5_keep [.ref 70, .ref 1] (gC W S A I B L) K := by
  refine e_X5_keep [] ?_
  conv => whnf
  refine ⟨(by rw [hx]; exact vp_in_nI (by omega) (by decide)), ?_⟩
  rw [hx, kA_i (by decide)]
  conv => whnf
  refine f_copy (w := W 11) (v := W 0) [96, 97, 98, 99, 100, 101, 1, 2, 3, 4, 5, 6] rfl rfl rfl ⟨rfl, rfl, rfl, rfl, rfl, rfl, rfl, rfl, rfl, rfl, rfl, rfl, trivial⟩ (fun w2 hw2 => ?_)
  conv => whnf
  refine b_X5_keep [] ?_
  conv => whnf
  refine ⟨(by decide), ?_⟩
  conv => whnf
  exact hK w2 _ _ hw2 (by first | decide | (rw [hx]; decide)) (by rw [hs]; exact mn_z h8)
set_option maxRecDepth 100000 in
theorem s_kp5 {W : Nat → WS} {S : Nat → S3} {A : Nat → Nat → Int32} {I : Nat → Int32} {B : Nat → Int32 × Int32} {L : Nat → Int64} {sz : Nat} (hx : I 3 = nI 5) (hs : I 4 = nI sz) (h8 : sz ≤ 8) {K : Option Value → AH → Prop} (hK : ∀ w2 y z, wEq w2 (W 0) → y = nI 6 → z = nI (min (sz + 1) 8) → K none (gC (va_up W 12 w2) S A (va_up (va_up I 3 y) 4 z) B L)) : am_M i_X5_keep [.ref 70, .ref 1] (gC W S A I B L) K := by
  refine e_X5_keep [] ?_
  conv => whnf
  refine ⟨(by rw [hx]; exact vp_in_nI (by omega) (by decide)), ?_⟩
  rw [hx, kA_i (by decide)]
  conv => whnf
  refine f_copy (w := W 12) (v := W 0) [102, 103, 104, 105, 106, 107, 1, 2, 3, 4, 5, 6] rfl rfl rfl ⟨rfl, rfl, rfl, rfl, rfl, rfl, rfl, rfl, rfl, rfl, rfl, rfl, trivial⟩ (fun w2 hw2 => ?_)
  conv => whnf
  refine b_X5_keep [] ?_
  conv => whnf
  refine ⟨(by decide), ?_⟩
  conv => whnf
  exact hK w2 _ _ hw2 (by first | decide | (rw [hx]; decide)) (by rw [hs]; exact mn_z h8)
set_option maxRecDepth 100000 in
theorem s_kp6 {W : Nat → WS} {S : Nat → S3} {A : Nat → Nat → Int32} {I : Nat → Int32} {B : Nat → Int32 × Int32} {L : Nat → Int64} {sz : Nat} (hx : I 3 = nI 6) (hs : I 4 = nI sz) (h8 : sz ≤ 8) {K : Option Value → AH → Prop} (hK : ∀ w2 y z, wEq w2 (W 0) → y = nI 7 → z = nI (min (sz + 1) 8) → K none (gC (va_up W 13 w2) S A (va_up (va_up I 3 y) 4 z) B L)) : am_M i_X5_keep [.ref 70, .ref 1] (gC W S A I B L) K := by
  refine e_X5_keep [] ?_
  conv => whnf
  refine ⟨(by rw [hx]; exact vp_in_nI (by omega) (by decide)), ?_⟩
  rw [hx, kA_i (by decide)]
  conv => whnf
  refine f_copy (w := W 13) (v := W 0) [108, 109, 110, 111, 112, 113, 1, 2, 3, 4, 5, 6] rfl rfl rfl ⟨rfl, rfl, rfl, rfl, rfl, rfl, rfl, rfl, rfl, rfl, rfl, rfl, trivial⟩ (fun w2 hw2 => ?_)
  conv => whnf
  refine b_X5_keep [] ?_
  conv => whnf
  refine ⟨(by decide), ?_⟩
  conv => whnf
  exact hK w2 _ _ hw2 (by first | decide | (rw [hx]; decide)) (by rw [hs]; exact mn_z h8)
set_option maxRecDepth 100000 in
theorem s_kp7 {W : Nat → WS} {S : Nat → S3} {A : Nat → Nat → Int32} {I : Nat → Int32} {B : Nat → Int32 × Int32} {L : Nat → Int64} {sz : Nat} (hx : I 3 = nI 7) (hs : I 4 = nI sz) (h8 : sz ≤ 8) {K : Option Value → AH → Prop} (hK : ∀ w2 y z, wEq w2 (W 0) → y = nI 0 → z = nI (min (sz + 1) 8) → K none (gC (va_up W 14 w2) S A (va_up (va_up I 3 y) 4 z) B L)) : am_M i_X5_keep [.ref 70, .ref 1] (gC W S A I B L) K := by
  refine e_X5_keep [] ?_
  conv => whnf
  refine ⟨(by rw [hx]; exact vp_in_nI (by omega) (by decide)), ?_⟩
  rw [hx, kA_i (by decide)]
  conv => whnf
  refine f_copy (w := W 14) (v := W 0) [114, 115, 116, 117, 118, 119, 1, 2, 3, 4, 5, 6] rfl rfl rfl ⟨rfl, rfl, rfl, rfl, rfl, rfl, rfl, rfl, rfl, rfl, rfl, rfl, trivial⟩ (fun w2 hw2 => ?_)
  conv => whnf
  refine b_X5_keep [] ?_
  conv => whnf
  refine ⟨(by decide), ?_⟩
  conv => whnf
  exact hK w2 _ _ hw2 (by first | decide | (rw [hx]; decide)) (by rw [hs]; exact mn_z h8)
set_option maxRecDepth 100000 in
theorem s_bk0 {W : Nat → WS} {S : Nat → S3} {A : Nat → Nat → Int32} {I : Nat → Int32} {B : Nat → Int32 × Int32} {L : Nat → Int64} {sz : Nat} (hx : I 3 = nI 0) (hs : I 4 = nI sz) (h0 : 0 < sz) {K : Option Value → AH → Prop} (hK : ∀ w2 y z, wEq w2 (W 14) → y = nI 7 → z = nI (sz - 1) → K (some (.int z)) (gC (va_up W 0 w2) S A (va_up (va_up I 3 y) 4 z) B L)) : am_M i_X5_takeBack [.ref 70, .ref 1] (gC W S A I B L) K := by
  have en : I 3 + nI 8 - nI 1 - (I 3 + nI 8 - nI 1) / nI 8 * nI 8 = nI 7 := by rw [hx]; decide
  refine e_X5_takeBack [] ?_
  conv => whnf
  refine ⟨(by decide), ?_⟩
  conv => whnf
  refine ⟨(by rw [en]; exact vp_in_nI (by omega) (by decide)), ?_⟩
  rw [en, kA_i (by decide)]
  conv => whnf
  refine f_copy (w := W 0) (v := W 14) [1, 2, 3, 4, 5, 6, 114, 115, 116, 117, 118, 119] rfl rfl rfl ⟨rfl, rfl, rfl, rfl, rfl, rfl, rfl, rfl, rfl, rfl, rfl, rfl, trivial⟩ (fun w2 hw2 => ?_)
  conv => whnf
  refine b_X5_takeBack [] ?_
  conv => whnf
  exact hK w2 _ _ hw2 rfl (by rw [hs]; exact nI_m sz h0)
set_option maxRecDepth 100000 in
theorem s_bk1 {W : Nat → WS} {S : Nat → S3} {A : Nat → Nat → Int32} {I : Nat → Int32} {B : Nat → Int32 × Int32} {L : Nat → Int64} {sz : Nat} (hx : I 3 = nI 1) (hs : I 4 = nI sz) (h0 : 0 < sz) {K : Option Value → AH → Prop} (hK : ∀ w2 y z, wEq w2 (W 7) → y = nI 0 → z = nI (sz - 1) → K (some (.int z)) (gC (va_up W 0 w2) S A (va_up (va_up I 3 y) 4 z) B L)) : am_M i_X5_takeBack [.ref 70, .ref 1] (gC W S A I B L) K := by
  have en : I 3 + nI 8 - nI 1 - (I 3 + nI 8 - nI 1) / nI 8 * nI 8 = nI 0 := by rw [hx]; decide
  refine e_X5_takeBack [] ?_
  conv => whnf
  refine ⟨(by decide), ?_⟩
  conv => whnf
  refine ⟨(by rw [en]; exact vp_in_nI (by omega) (by decide)), ?_⟩
  rw [en, kA_i (by decide)]
  conv => whnf
  refine f_copy (w := W 0) (v := W 7) [1, 2, 3, 4, 5, 6, 72, 73, 74, 75, 76, 77] rfl rfl rfl ⟨rfl, rfl, rfl, rfl, rfl, rfl, rfl, rfl, rfl, rfl, rfl, rfl, trivial⟩ (fun w2 hw2 => ?_)
  conv => whnf
  refine b_X5_takeBack [] ?_
  conv => whnf
  exact hK w2 _ _ hw2 rfl (by rw [hs]; exact nI_m sz h0)
set_option maxRecDepth 100000 in
theorem s_bk2 {W : Nat → WS} {S : Nat → S3} {A : Nat → Nat → Int32} {I : Nat → Int32} {B : Nat → Int32 × Int32} {L : Nat → Int64} {sz : Nat} (hx : I 3 = nI 2) (hs : I 4 = nI sz) (h0 : 0 < sz) {K : Option Value → AH → Prop} (hK : ∀ w2 y z, wEq w2 (W 8) → y = nI 1 → z = nI (sz - 1) → K (some (.int z)) (gC (va_up W 0 w2) S A (va_up (va_up I 3 y) 4 z) B L)) : am_M i_X5_takeBack [.ref 70, .ref 1] (gC W S A I B L) K := by
  have en : I 3 + nI 8 - nI 1 - (I 3 + nI 8 - nI 1) / nI 8 * nI 8 = nI 1 := by rw [hx]; decide
  refine e_X5_takeBack [] ?_
  conv => whnf
  refine ⟨(by decide), ?_⟩
  conv => whnf
  refine ⟨(by rw [en]; exact vp_in_nI (by omega) (by decide)), ?_⟩
  rw [en, kA_i (by decide)]
  conv => whnf
  refine f_copy (w := W 0) (v := W 8) [1, 2, 3, 4, 5, 6, 78, 79, 80, 81, 82, 83] rfl rfl rfl ⟨rfl, rfl, rfl, rfl, rfl, rfl, rfl, rfl, rfl, rfl, rfl, rfl, trivial⟩ (fun w2 hw2 => ?_)
  conv => whnf
  refine b_X5_takeBack [] ?_
  conv => whnf
  exact hK w2 _ _ hw2 rfl (by rw [hs]; exact nI_m sz h0)
set_option maxRecDepth 100000 in
theorem s_bk3 {W : Nat → WS} {S : Nat → S3} {A : Nat → Nat → Int32} {I : Nat → Int32} {B : Nat → Int32 × Int32} {L : Nat → Int64} {sz : Nat} (hx : I 3 = nI 3) (hs : I 4 = nI sz) (h0 : 0 < sz) {K : Option Value → AH → Prop} (hK : ∀ w2 y z, wEq w2 (W 9) → y = nI 2 → z = nI (sz - 1) → K (some (.int z)) (gC (va_up W 0 w2) S A (va_up (va_up I 3 y) 4 z) B L)) : am_M i_X5_takeBack [.ref 70, .ref 1] (gC W S A I B L) K := by
  have en : I 3 + nI 8 - nI 1 - (I 3 + nI 8 - nI 1) / nI 8 * nI 8 = nI 2 := by rw [hx]; decide
  refine e_X5_takeBack [] ?_
  conv => whnf
  refine ⟨(by decide), ?_⟩
  conv => whnf
  refine ⟨(by rw [en]; exact vp_in_nI (by omega) (by decide)), ?_⟩
  rw [en, kA_i (by decide)]
  conv => whnf
  refine f_copy (w := W 0) (v := W 9) [1, 2, 3, 4, 5, 6, 84, 85, 86, 87, 88, 89] rfl rfl rfl ⟨rfl, rfl, rfl, rfl, rfl, rfl, rfl, rfl, rfl, rfl, rfl, rfl, trivial⟩ (fun w2 hw2 => ?_)
  conv => whnf
  refine b_X5_takeBack [] ?_
  conv => whnf
  exact hK w2 _ _ hw2 rfl (by rw [hs]; exact nI_m sz h0)
set_option maxRecDepth 100000 in
theorem s_bk4 {W : Nat → WS} {S : Nat → S3} {A : Nat → Nat → Int32} {I : Nat → Int32} {B : Nat → Int32 × Int32} {L : Nat → Int64} {sz : Nat} (hx : I 3 = nI 4) (hs : I 4 = nI sz) (h0 : 0 < sz) {K : Option Value → AH → Prop} (hK : ∀ w2 y z, wEq w2 (W 10) → y = nI 3 → z = nI (sz - 1) → K (some (.int z)) (gC (va_up W 0 w2) S A (va_up (va_up I 3 y) 4 z) B L)) : am_M i_X5_takeBack [.ref 70, .ref 1] (gC W S A I B L) K := by
  have en : I 3 + nI 8 - nI 1 - (I 3 + nI 8 - nI 1) / nI 8 * nI 8 = nI 3 := by rw [hx]; decide
  refine e_X5_takeBack [] ?_
  conv => whnf
  refine ⟨(by decide), ?_⟩
  conv => whnf
  refine ⟨(by rw [en]; exact vp_in_nI (by omega) (by decide)), ?_⟩
  rw [en, kA_i (by decide)]
  conv => whnf
  refine f_copy (w := W 0) (v := W 10) [1, 2, 3, 4, 5, 6, 90, 91, 92, 93, 94, 95] rfl rfl rfl ⟨rfl, rfl, rfl, rfl, rfl, rfl, rfl, rfl, rfl, rfl, rfl, rfl, trivial⟩ (fun w2 hw2 => ?_)
  conv => whnf
  refine b_X5_takeBack [] ?_
  conv => whnf
  exact hK w2 _ _ hw2 rfl (by rw [hs]; exact nI_m sz h0)
set_option maxRecDepth 100000 in
theorem s_bk5 {W : Nat → WS} {S : Nat → S3} {A : Nat → Nat → Int32} {I : Nat → Int32} {B : Nat → Int32 × Int32} {L : Nat → Int64} {sz : Nat} (hx : I 3 = nI 5) (hs : I 4 = nI sz) (h0 : 0 < sz) {K : Option Value → AH → Prop} (hK : ∀ w2 y z, wEq w2 (W 11) → y = nI 4 → z = nI (sz - 1) → K (some (.int z)) (gC (va_up W 0 w2) S A (va_up (va_up I 3 y) 4 z) B L)) : am_M i_X5_takeBack [.ref 70, .ref 1] (gC W S A I B L) K := by
  have en : I 3 + nI 8 - nI 1 - (I 3 + nI 8 - nI 1) / nI 8 * nI 8 = nI 4 := by rw [hx]; decide
  refine e_X5_takeBack [] ?_
  conv => whnf
  refine ⟨(by decide), ?_⟩
  conv => whnf
  refine ⟨(by rw [en]; exact vp_in_nI (by omega) (by decide)), ?_⟩
  rw [en, kA_i (by decide)]
  conv => whnf
  refine f_copy (w := W 0) (v := W 11) [1, 2, 3, 4, 5, 6, 96, 97, 98, 99, 100, 101] rfl rfl rfl ⟨rfl, rfl, rfl, rfl, rfl, rfl, rfl, rfl, rfl, rfl, rfl, rfl, trivial⟩ (fun w2 hw2 => ?_)
  conv => whnf
  refine b_X5_takeBack [] ?_
  conv => whnf
  exact hK w2 _ _ hw2 rfl (by rw [hs]; exact nI_m sz h0)
set_option maxRecDepth 100000 in
theorem s_bk6 {W : Nat → WS} {S : Nat → S3} {A : Nat → Nat → Int32} {I : Nat → Int32} {B : Nat → Int32 × Int32} {L : Nat → Int64} {sz : Nat} (hx : I 3 = nI 6) (hs : I 4 = nI sz) (h0 : 0 < sz) {K : Option Value → AH → Prop} (hK : ∀ w2 y z, wEq w2 (W 12) → y = nI 5 → z = nI (sz - 1) → K (some (.int z)) (gC (va_up W 0 w2) S A (va_up (va_up I 3 y) 4 z) B L)) : am_M i_X5_takeBack [.ref 70, .ref 1] (gC W S A I B L) K := by
  have en : I 3 + nI 8 - nI 1 - (I 3 + nI 8 - nI 1) / nI 8 * nI 8 = nI 5 := by rw [hx]; decide
  refine e_X5_takeBack [] ?_
  conv => whnf
  refine ⟨(by decide), ?_⟩
  conv => whnf
  refine ⟨(by rw [en]; exact vp_in_nI (by omega) (by decide)), ?_⟩
  rw [en, kA_i (by decide)]
  conv => whnf
  refine f_copy (w := W 0) (v := W 12) [1, 2, 3, 4, 5, 6, 102, 103, 104, 105, 106, 107] rfl rfl rfl ⟨rfl, rfl, rfl, rfl, rfl, rfl, rfl, rfl, rfl, rfl, rfl, rfl, trivial⟩ (fun w2 hw2 => ?_)
  conv => whnf
  refine b_X5_takeBack [] ?_
  conv => whnf
  exact hK w2 _ _ hw2 rfl (by rw [hs]; exact nI_m sz h0)
set_option maxRecDepth 100000 in
theorem s_bk7 {W : Nat → WS} {S : Nat → S3} {A : Nat → Nat → Int32} {I : Nat → Int32} {B : Nat → Int32 × Int32} {L : Nat → Int64} {sz : Nat} (hx : I 3 = nI 7) (hs : I 4 = nI sz) (h0 : 0 < sz) {K : Option Value → AH → Prop} (hK : ∀ w2 y z, wEq w2 (W 13) → y = nI 6 → z = nI (sz - 1) → K (some (.int z)) (gC (va_up W 0 w2) S A (va_up (va_up I 3 y) 4 z) B L)) : am_M i_X5_takeBack [.ref 70, .ref 1] (gC W S A I B L) K := by
  have en : I 3 + nI 8 - nI 1 - (I 3 + nI 8 - nI 1) / nI 8 * nI 8 = nI 6 := by rw [hx]; decide
  refine e_X5_takeBack [] ?_
  conv => whnf
  refine ⟨(by decide), ?_⟩
  conv => whnf
  refine ⟨(by rw [en]; exact vp_in_nI (by omega) (by decide)), ?_⟩
  rw [en, kA_i (by decide)]
  conv => whnf
  refine f_copy (w := W 0) (v := W 13) [1, 2, 3, 4, 5, 6, 108, 109, 110, 111, 112, 113] rfl rfl rfl ⟨rfl, rfl, rfl, rfl, rfl, rfl, rfl, rfl, rfl, rfl, rfl, rfl, trivial⟩ (fun w2 hw2 => ?_)
  conv => whnf
  refine b_X5_takeBack [] ?_
  conv => whnf
  exact hK w2 _ _ hw2 rfl (by rw [hs]; exact nI_m sz h0)
theorem s_kp {W : Nat → WS} {S : Nat → S3} {A : Nat → Nat → Int32} {I : Nat → Int32} {B : Nat → Int32 × Int32} {L : Nat → Int64} {x sz : Nat} (hx8 : x < 8) (hx : I 3 = nI x) (hs : I 4 = nI sz) (h8 : sz ≤ 8) {K : Option Value → AH → Prop} (hK : ∀ w2, wEq w2 (W 0) → K none (gC (va_up W (7 + x) w2) S A (va_up (va_up I 3 (nI ((x + 1) % 8))) 4 (nI (min (sz + 1) 8))) B L)) : am_M i_X5_keep [.ref 70, .ref 1] (gC W S A I B L) K := by
  match x, hx8, hx, hK with
  | 0, _, hx, hK => exact s_kp0 hx hs h8 (fun w2 y z h1 h2 h3 => by subst h2; subst h3; exact hK w2 h1)
  | 1, _, hx, hK => exact s_kp1 hx hs h8 (fun w2 y z h1 h2 h3 => by subst h2; subst h3; exact hK w2 h1)
  | 2, _, hx, hK => exact s_kp2 hx hs h8 (fun w2 y z h1 h2 h3 => by subst h2; subst h3; exact hK w2 h1)
  | 3, _, hx, hK => exact s_kp3 hx hs h8 (fun w2 y z h1 h2 h3 => by subst h2; subst h3; exact hK w2 h1)
  | 4, _, hx, hK => exact s_kp4 hx hs h8 (fun w2 y z h1 h2 h3 => by subst h2; subst h3; exact hK w2 h1)
  | 5, _, hx, hK => exact s_kp5 hx hs h8 (fun w2 y z h1 h2 h3 => by subst h2; subst h3; exact hK w2 h1)
  | 6, _, hx, hK => exact s_kp6 hx hs h8 (fun w2 y z h1 h2 h3 => by subst h2; subst h3; exact hK w2 h1)
  | 7, _, hx, hK => exact s_kp7 hx hs h8 (fun w2 y z h1 h2 h3 => by subst h2; subst h3; exact hK w2 h1)
theorem s_bk {W : Nat → WS} {S : Nat → S3} {A : Nat → Nat → Int32} {I : Nat → Int32} {B : Nat → Int32 × Int32} {L : Nat → Int64} {x sz : Nat} (hx8 : x < 8) (hx : I 3 = nI x) (hs : I 4 = nI sz) (h0 : 0 < sz) {K : Option Value → AH → Prop} (hK : ∀ w2, wEq w2 (W (7 + (x + 7) % 8)) → K (some (.int (nI (sz - 1)))) (gC (va_up W 0 w2) S A (va_up (va_up I 3 (nI ((x + 7) % 8))) 4 (nI (sz - 1))) B L)) : am_M i_X5_takeBack [.ref 70, .ref 1] (gC W S A I B L) K := by
  match x, hx8, hx, hK with
  | 0, _, hx, hK => exact s_bk0 hx hs h0 (fun w2 y z h1 h2 h3 => by subst h2; subst h3; exact hK w2 h1)
  | 1, _, hx, hK => exact s_bk1 hx hs h0 (fun w2 y z h1 h2 h3 => by subst h2; subst h3; exact hK w2 h1)
  | 2, _, hx, hK => exact s_bk2 hx hs h0 (fun w2 y z h1 h2 h3 => by subst h2; subst h3; exact hK w2 h1)
  | 3, _, hx, hK => exact s_bk3 hx hs h0 (fun w2 y z h1 h2 h3 => by subst h2; subst h3; exact hK w2 h1)
  | 4, _, hx, hK => exact s_bk4 hx hs h0 (fun w2 y z h1 h2 h3 => by subst h2; subst h3; exact hK w2 h1)
  | 5, _, hx, hK => exact s_bk5 hx hs h0 (fun w2 y z h1 h2 h3 => by subst h2; subst h3; exact hK w2 h1)
  | 6, _, hx, hK => exact s_bk6 hx hs h0 (fun w2 y z h1 h2 h3 => by subst h2; subst h3; exact hK w2 h1)
  | 7, _, hx, hK => exact s_bk7 hx hs h0 (fun w2 y z h1 h2 h3 => by subst h2; subst h3; exact hK w2 h1)
set_option maxRecDepth 100000 in
theorem s_fg {W : Nat → WS} {S : Nat → S3} {A : Nat → Nat → Int32} {I : Nat → Int32} {B : Nat → Int32 × Int32} {L : Nat → Int64} {K : Option Value → AH → Prop} (hK : K none (gC W S A (va_up I 4 (nI 0)) B L)) : am_M i_X5_forget [.ref 70] (gC W S A I B L) K := by
  refine e_X5_forget [] ?_
  conv => whnf
  exact hK
set_option maxRecDepth 100000 in
theorem g_wd {W : Nat → WS} {S : Nat → S3} {A : Nat → Nat → Int32} {I : Nat → Int32} {B : Nat → Int32 × Int32} {L : Nat → Int64} {Z : Type} {P : Z → Prop} {r0 : Z → Option Value} (fs : Z → S3) (fw : Z → WS) {id : Nat} {aa aaB : List Value} {K2 : Option Value → AH → Prop} (hm : ∀ K : Option Value → AH → Prop, (∀ z, P z → K (r0 z) (uC 0 (fs z) ++ wC 2 (fw z))) → am_M id aa (uC 0 (S 0) ++ wC 2 (W 0)) K) (haa : am_rS (am_pl [7, 8, 1, 2, 3, 4, 5, 6]) aa = aaB) (hk : ∀ z, P z → am_oK [7, 8, 1, 2, 3, 4, 5, 6] (r0 z) (fun r => K2 r (gC (va_up W 0 (fw z)) (va_up S 0 (fs z)) A I B L))) : am_M id aaB (gC W S A I B L) K2 :=
  am_frZ (Z := Z) (P := P) (r0 := r0) (h2 := fun z => uC 0 (fs z) ++ wC 2 (fw z)) [7, 8, 1, 2, 3, 4, 5, 6] hm haa rfl ⟨rfl, rfl, rfl, rfl, rfl, rfl, rfl, rfl, trivial⟩ (fun _ => rfl) (fun z hz => hk z hz)
set_option maxRecDepth 100000 in
theorem g_w {W : Nat → WS} {S : Nat → S3} {A : Nat → Nat → Int32} {I : Nat → Int32} {B : Nat → Int32 × Int32} {L : Nat → Int64} {Z : Type} {P : Z → Prop} {r0 : Z → Option Value} (fw : Z → WS) {id : Nat} {aa aaB : List Value} {K2 : Option Value → AH → Prop} (hm : ∀ K : Option Value → AH → Prop, (∀ z, P z → K (r0 z) (wC 0 (fw z))) → am_M id aa (wC 0 (W 0)) K) (haa : am_rS (am_pl [1, 2, 3, 4, 5, 6]) aa = aaB) (hk : ∀ z, P z → am_oK [1, 2, 3, 4, 5, 6] (r0 z) (fun r => K2 r (gC (va_up W 0 (fw z)) S A I B L))) : am_M id aaB (gC W S A I B L) K2 :=
  am_frZ (Z := Z) (P := P) (r0 := r0) (h2 := fun z => wC 0 (fw z)) [1, 2, 3, 4, 5, 6] hm haa rfl ⟨rfl, rfl, rfl, rfl, rfl, rfl, trivial⟩ (fun _ => rfl) (fun z hz => hk z hz)
theorem rfl_ {α : Type} (x : α) : x = x := rfl
theorem c_thing {a : Ab} {k f b : Int32} {H : AH} (hI : Inv a) (hC : CR a H) {K : Option Value → AH → Prop} (h1 : ¬ (fJoinR ((a.1 0).1 0) k f b) = 0 → ∀ H2, CR (qB a (fJoinR ((a.1 0).1 0) k f b)) H2 → K (some (.int (fJoinR ((a.1 0).1 0) k f b))) H2) (h0 : (fJoinR ((a.1 0).1 0) k f b) = 0 → ∀ H2, CR (fgA (nowA a (wJoin (a.1 0) (nO (a.1 0)) k f b)) 0) H2 → K (some (.int (nI (nO (a.1 0))))) H2) : am_M i_X11_thing [.ref 0, .int k, .int f, .int b] H K := by
  obtain ⟨W, S, A, I, B, L, rfl, hX⟩ := hC
  have e0 : W 0 = a.1 0 := hX.1
  have e1 : I 1 = nI (a.2.2 1) := hX.2.2.2.2.2.2.1
  have e2 : I 2 = nI (a.2.2 2) := hX.2.2.2.2.2.2.2.1
  have e4 : I 4 = nI (a.2.2 3) := hX.2.2.2.2.2.2.2.2.1
  obtain ⟨x9, hx9, e3, -⟩ := hX.2.2.2.2.2.2.2.2.2
  have h38 : a.2.2 3 ≤ 8 := hI.2.2.2.2.2.1
  have hw := hX.n hI
  have hn := hw.1
  have hn8 := hw.2.1
  try rw [← e0] at h1 h0
  refine e_X11_thing [] ?_
  conv => whnf
  refine s_joinR (w := W 0) (r := fun i => 2 + i) ⟨rfl, rfl, rfl, rfl, rfl, rfl⟩ ?_
  refine b_X11_thing [] ?_
  conv => whnf
  refine ⟨fun c14 => ?_, fun c14 => ?_⟩
  · refine b_X11_thing [] ?_
    conv => whnf
    have h9 := h0 c14
    have hlt := fJoinR_0 hn8 (by rw [← hn]; exact c14)
    refine s_fg ?_
    refine b_X11_thing [] ?_
    conv => whnf
    refine g_w (Z := Unit) (P := fun _ => True) (r0 := fun _ => some (.int (nI (nO (W 0))))) (fun _ => wJoin (W 0) (nO (W 0)) k f b) (fun K hK => s_join hn hlt (hK () trivial)) rfl (fun z _ => ?_)
    conv => whnf
    refine b_X11_thing [] ?_
    conv => whnf
    exact h9 _ ⟨_, _, _, _, _, _, rfl, (hX.now _).fg⟩
  · conv => whnf
    refine s_refuse ref_in ?_
    refine b_X11_thing [] ?_
    conv => whnf
    exact h1 c14 _ ⟨_, _, _, _, _, _, rfl, hX.bump c14⟩
theorem c_drops {a : Ab} {x v : Int32} {H : AH} (hI : Inv a) (hC : CR a H) {K : Option Value → AH → Prop} (h1 : ¬ (fDropR ((a.1 0).1 0) ((a.1 0).1 1) ((a.1 0).1 3) x v) = 0 → ∀ H2, CR (qB a (fDropR ((a.1 0).1 0) ((a.1 0).1 1) ((a.1 0).1 3) x v)) H2 → K (some (.int (fDropR ((a.1 0).1 0) ((a.1 0).1 1) ((a.1 0).1 3) x v))) H2) (h0 : (fDropR ((a.1 0).1 0) ((a.1 0).1 1) ((a.1 0).1 3) x v) = 0 → ∀ w2, wEq w2 (a.1 0) → ∀ H2, CR (nowA (kpA a w2) (wDrop (a.1 0) (blw (a.1 0) (nO (a.1 0)) (plW (a.1 0) x.toNatClampNeg) v).2.2)) H2 → K (some (.int (fBc (blw (a.1 0) (nO (a.1 0)) (plW (a.1 0) x.toNatClampNeg) v).2.2))) H2) : am_M i_X11_drops [.ref 0, .int x, .int v] H K := by
  obtain ⟨W, S, A, I, B, L, rfl, hX⟩ := hC
  have e0 : W 0 = a.1 0 := hX.1
  have e1 : I 1 = nI (a.2.2 1) := hX.2.2.2.2.2.2.1
  have e2 : I 2 = nI (a.2.2 2) := hX.2.2.2.2.2.2.2.1
  have e4 : I 4 = nI (a.2.2 3) := hX.2.2.2.2.2.2.2.2.1
  obtain ⟨x9, hx9, e3, -⟩ := hX.2.2.2.2.2.2.2.2.2
  have h38 : a.2.2 3 ≤ 8 := hI.2.2.2.2.2.1
  have hw := hX.n hI
  have hn := hw.1
  have hn8 := hw.2.1
  try rw [← e0] at h1 h0
  refine e_X11_drops [] ?_
  conv => whnf
  refine s_dropR (w := W 0) (r := fun i => 2 + i) ⟨rfl, rfl, rfl, rfl, rfl, rfl⟩ ?_
  refine b_X11_drops [] ?_
  conv => whnf
  refine ⟨fun c11 => ?_, fun c11 => ?_⟩
  · refine b_X11_drops [] ?_
    conv => whnf
    have h9 := h0 c11
    obtain ⟨t, ht, rfl⟩ := fDropR_0 (n := nO (W 0)) (by omega) (by rw [← hn]; exact c11)
    have et : (nI t).toNatClampNeg = t := nI_clamp (by omega)
    rw [et] at h9
    refine s_kp hx9 e3 e4 h38 (fun w2 hw2 => ?_)
    have hX9 := hX.kp hx9 e3 h38 w2
    have ew : va_up W (7 + x9) w2 0 = W 0 := if_neg (by omega)
    generalize va_up W (7 + x9) w2 = W9 at hX9 ew ⊢
    rw [← ew] at h9 hw hw2 hn ht
    refine b_X11_drops [] ?_
    conv => whnf
    refine g_wd (Z := S3) (P := fun s2 => sAg s2 (blw (W9 0) (nO (W9 0)) (plW (W9 0) t) v)) (r0 := fun _ => none) (fun z => z) (fun z => wDrop (W9 0) z.2.2) (fun K hK => s_drop hw ht hK) rfl (fun s2 hs2 => ?_)
    conv => whnf
    refine b_X11_drops [] ?_
    conv => whnf
    refine s_brokenCount (s := s2) ⟨rfl, rfl⟩ ?_
    refine b_X11_drops [] ?_
    conv => whnf
    rw [← hs2.2] at h9
    exact h9 w2 hw2 _ ⟨_, _, _, _, _, _, rfl, hX9.now _⟩
  · conv => whnf
    refine s_refuse ref_in ?_
    refine b_X11_drops [] ?_
    conv => whnf
    exact h1 c11 _ ⟨_, _, _, _, _, _, rfl, hX.bump c11⟩
theorem c_mends {a : Ab} {x : Int32} {H : AH} (hI : Inv a) (hC : CR a H) {K : Option Value → AH → Prop} (h1 : ¬ (fMendR ((a.1 0).1 0) ((a.1 0).1 1) x) = 0 → ∀ H2, CR (qB a (fMendR ((a.1 0).1 0) ((a.1 0).1 1) x)) H2 → K (some (.int (fMendR ((a.1 0).1 0) ((a.1 0).1 1) x))) H2) (h0 : (fMendR ((a.1 0).1 0) ((a.1 0).1 1) x) = 0 → ∀ w2, wEq w2 (a.1 0) → ∀ H2, CR (nowA (kpA a w2) (wI (a.1 0) 1 (butI ((a.1 0).1 1) x))) H2 → K (some (.int (fBc (butI ((a.1 0).1 1) x)))) H2) : am_M i_X11_mends [.ref 0, .int x] H K := by
  obtain ⟨W, S, A, I, B, L, rfl, hX⟩ := hC
  have e0 : W 0 = a.1 0 := hX.1
  have e1 : I 1 = nI (a.2.2 1) := hX.2.2.2.2.2.2.1
  have e2 : I 2 = nI (a.2.2 2) := hX.2.2.2.2.2.2.2.1
  have e4 : I 4 = nI (a.2.2 3) := hX.2.2.2.2.2.2.2.2.1
  obtain ⟨x9, hx9, e3, -⟩ := hX.2.2.2.2.2.2.2.2.2
  have h38 : a.2.2 3 ≤ 8 := hI.2.2.2.2.2.1
  have hw := hX.n hI
  have hn := hw.1
  have hn8 := hw.2.1
  try rw [← e0] at h1 h0
  refine e_X11_mends [] ?_
  conv => whnf
  refine s_mendR (w := W 0) (r := fun i => 2 + i) ⟨rfl, rfl, rfl, rfl, rfl, rfl⟩ ?_
  refine b_X11_mends [] ?_
  conv => whnf
  refine ⟨fun c10 => ?_, fun c10 => ?_⟩
  · refine b_X11_mends [] ?_
    conv => whnf
    have h9 := h0 c10
    refine s_kp hx9 e3 e4 h38 (fun w2 hw2 => ?_)
    have hX9 := hX.kp hx9 e3 h38 w2
    have ew : va_up W (7 + x9) w2 0 = W 0 := if_neg (by omega)
    generalize va_up W (7 + x9) w2 = W9 at hX9 ew ⊢
    rw [← ew] at h9 hw hw2 hn
    refine b_X11_mends [] ?_
    conv => whnf
    refine g_w (Z := Unit) (P := fun _ => True) (r0 := fun _ => none) (fun _ => wI (W9 0) 1 (butI ((W9 0).1 1) x)) (fun K hK => s_mend (hK () trivial)) rfl (fun z _ => ?_)
    conv => whnf
    refine b_X11_mends [] ?_
    conv => whnf
    refine s_bc ?_
    refine b_X11_mends [] ?_
    conv => whnf
    exact h9 w2 hw2 _ ⟨_, _, _, _, _, _, rfl, hX9.now _⟩
  · conv => whnf
    refine s_refuse ref_in ?_
    refine b_X11_mends [] ?_
    conv => whnf
    exact h1 c10 _ ⟨_, _, _, _, _, _, rfl, hX.bump c10⟩
theorem c_cuts {a : Ab} {x : Int32} {H : AH} (hI : Inv a) (hC : CR a H) {K : Option Value → AH → Prop} (h1 : ¬ (fNoTh ((a.1 0).1 0 - nI 1) x) = 0 → ∀ H2, CR (qB a (fNoTh ((a.1 0).1 0 - nI 1) x)) H2 → K (some (.int (fNoTh ((a.1 0).1 0 - nI 1) x))) H2) (h0 : (fNoTh ((a.1 0).1 0 - nI 1) x) = 0 → ∀ w2, wEq w2 (a.1 0) → ∀ H2, CR (nowA (kpA a w2) (wI (a.1 0) 2 ((a.1 0).1 2 ^^^ (nI 1 <<< (x &&& 31))))) H2 → K (some (.int (bI (fCut ((a.1 0).1 2 ^^^ (nI 1 <<< (x &&& 31))) x)))) H2) : am_M i_X11_cuts [.ref 0, .int x] H K := by
  obtain ⟨W, S, A, I, B, L, rfl, hX⟩ := hC
  have e0 : W 0 = a.1 0 := hX.1
  have e1 : I 1 = nI (a.2.2 1) := hX.2.2.2.2.2.2.1
  have e2 : I 2 = nI (a.2.2 2) := hX.2.2.2.2.2.2.2.1
  have e4 : I 4 = nI (a.2.2 3) := hX.2.2.2.2.2.2.2.2.1
  obtain ⟨x9, hx9, e3, -⟩ := hX.2.2.2.2.2.2.2.2.2
  have h38 : a.2.2 3 ≤ 8 := hI.2.2.2.2.2.1
  have hw := hX.n hI
  have hn := hw.1
  have hn8 := hw.2.1
  try rw [← e0] at h1 h0
  refine e_X11_cuts [] ?_
  conv => whnf
  refine s_noLink rfl ?_
  refine b_X11_cuts [] ?_
  conv => whnf
  refine ⟨fun c10 => ?_, fun c10 => ?_⟩
  · refine b_X11_cuts [] ?_
    conv => whnf
    have h9 := h0 c10
    refine s_kp hx9 e3 e4 h38 (fun w2 hw2 => ?_)
    have hX9 := hX.kp hx9 e3 h38 w2
    have ew : va_up W (7 + x9) w2 0 = W 0 := if_neg (by omega)
    generalize va_up W (7 + x9) w2 = W9 at hX9 ew ⊢
    rw [← ew] at h9 hw hw2 hn
    refine b_X11_cuts [] ?_
    conv => whnf
    refine g_w (Z := Unit) (P := fun _ => True) (r0 := fun _ => none) (fun _ => wI (W9 0) 2 ((W9 0).1 2 ^^^ (nI 1 <<< (x &&& 31)))) (fun K hK => s_turnCut (hK () trivial)) rfl (fun z _ => ?_)
    conv => whnf
    refine b_X11_cuts [] ?_
    conv => whnf
    refine s_isCut rfl ?_
    refine b_X11_cuts [] ?_
    conv => whnf
    refine ⟨fun c46 => ?_, fun c46 => ?_⟩
    · refine b_X11_cuts [] ?_
      conv => whnf
      have c47 : fCut ((W9 0).1 2 ^^^ (nI 1 <<< (x &&& 31))) x = false := bI_0.mp c46
      rw [c47] at h9
      exact h9 w2 hw2 _ ⟨_, _, _, _, _, _, rfl, hX9.now _⟩
    · conv => whnf
      refine b_X11_cuts [] ?_
      conv => whnf
      have c47 : fCut ((W9 0).1 2 ^^^ (nI 1 <<< (x &&& 31))) x = true := bI_n0.mp c46
      rw [c47] at h9
      exact h9 w2 hw2 _ ⟨_, _, _, _, _, _, rfl, hX9.now _⟩
  · conv => whnf
    refine s_refuse ref_in ?_
    refine b_X11_cuts [] ?_
    conv => whnf
    exact h1 c10 _ ⟨_, _, _, _, _, _, rfl, hX.bump c10⟩
theorem c_changes {a : Ab} {x y : Int32} {H : AH} (hI : Inv a) (hC : CR a H) {K : Option Value → AH → Prop} (h1 : ¬ (fChgR ((a.1 0).1 0) x y) = 0 → ∀ H2, CR (qB a (fChgR ((a.1 0).1 0) x y)) H2 → K (some (.int (fChgR ((a.1 0).1 0) x y))) H2) (h0 : (fChgR ((a.1 0).1 0) x y) = 0 → ∀ w2, wEq w2 (a.1 0) → ∀ H2, CR (nowA (kpA a w2) (wXch (a.1 0) x.toNatClampNeg y.toNatClampNeg)) H2 → K (some (.int ((wXch (a.1 0) x.toNatClampNeg y.toNatClampNeg).2 3 x.toNatClampNeg))) H2) : am_M i_X11_changes [.ref 0, .int x, .int y] H K := by
  obtain ⟨W, S, A, I, B, L, rfl, hX⟩ := hC
  have e0 : W 0 = a.1 0 := hX.1
  have e1 : I 1 = nI (a.2.2 1) := hX.2.2.2.2.2.2.1
  have e2 : I 2 = nI (a.2.2 2) := hX.2.2.2.2.2.2.2.1
  have e4 : I 4 = nI (a.2.2 3) := hX.2.2.2.2.2.2.2.2.1
  obtain ⟨x9, hx9, e3, -⟩ := hX.2.2.2.2.2.2.2.2.2
  have h38 : a.2.2 3 ≤ 8 := hI.2.2.2.2.2.1
  have hw := hX.n hI
  have hn := hw.1
  have hn8 := hw.2.1
  try rw [← e0] at h1 h0
  refine e_X11_changes [] ?_
  conv => whnf
  refine s_chgR (w := W 0) (r := fun i => 2 + i) ⟨rfl, rfl, rfl, rfl, rfl, rfl⟩ ?_
  refine b_X11_changes [] ?_
  conv => whnf
  refine ⟨fun c11 => ?_, fun c11 => ?_⟩
  · refine b_X11_changes [] ?_
    conv => whnf
    have h9 := h0 c11
    obtain ⟨⟨i, hi, rfl⟩, j, hj, rfl⟩ := fChgR_0 (n := nO (W 0)) (by omega) (by rw [← hn]; exact c11)
    have ei : (nI i).toNatClampNeg = i := nI_clamp (by omega)
    have ej : (nI j).toNatClampNeg = j := nI_clamp (by omega)
    rw [ei, ej] at h9
    refine s_kp hx9 e3 e4 h38 (fun w2 hw2 => ?_)
    have hX9 := hX.kp hx9 e3 h38 w2
    have ew : va_up W (7 + x9) w2 0 = W 0 := if_neg (by omega)
    generalize va_up W (7 + x9) w2 = W9 at hX9 ew ⊢
    rw [← ew] at h9 hw hw2 hn hn8 hi hj
    refine b_X11_changes [] ?_
    conv => whnf
    refine g_w (Z := Unit) (P := fun _ => True) (r0 := fun _ => none) (fun _ => wXch (W9 0) i j) (fun K hK => s_exchange hn8 hw.at8 hi hj (hK () trivial)) rfl (fun z _ => ?_)
    conv => whnf
    refine b_X11_changes [] ?_
    conv => whnf
    refine ⟨(vp_in_nI (show i < 8 by omega) (by decide)), ?_⟩
    conv => whnf
    rw [ei]
    exact h9 w2 hw2 _ ⟨_, _, _, _, _, _, rfl, hX9.now _⟩
  · conv => whnf
    refine s_refuse ref_in ?_
    refine b_X11_changes [] ?_
    conv => whnf
    exact h1 c11 _ ⟨_, _, _, _, _, _, rfl, hX.bump c11⟩
theorem c_back {a : Ab} {H : AH} (hI : Inv a) (hC : CR a H) {K : Option Value → AH → Prop} (h1 : a.2.2 3 = 0 → ∀ H2, CR (qB a (Int32.ofInt (-3))) H2 → K (some (.int (Int32.ofInt (-3)))) H2) (h0 : ¬ a.2.2 3 = 0 → ∀ w2, wEq w2 (a.1 (2 + (a.2.2 3 - 1))) → ∀ H2, CR (fgA (nowA a w2) (a.2.2 3 - 1)) H2 → K (some (.int (nI (a.2.2 3 - 1)))) H2) : am_M i_X11_back [.ref 0] H K := by
  obtain ⟨W, S, A, I, B, L, rfl, hX⟩ := hC
  have e0 : W 0 = a.1 0 := hX.1
  have e1 : I 1 = nI (a.2.2 1) := hX.2.2.2.2.2.2.1
  have e2 : I 2 = nI (a.2.2 2) := hX.2.2.2.2.2.2.2.1
  have e4 : I 4 = nI (a.2.2 3) := hX.2.2.2.2.2.2.2.2.1
  obtain ⟨x9, hx9, e3, -⟩ := hX.2.2.2.2.2.2.2.2.2
  have h38 : a.2.2 3 ≤ 8 := hI.2.2.2.2.2.1
  have hw := hX.n hI
  have hn := hw.1
  have hn8 := hw.2.1
  refine e_X11_back [] ?_
  conv => whnf
  refine ⟨fun c7 => ?_, fun c7 => ?_⟩
  · conv => whnf
    refine s_refuse ref_in ?_
    refine b_X11_back [] ?_
    conv => whnf
    exact h1 ((nI_eq (by omega) (by decide)).mp (e4.symm.trans c7)) _ ⟨_, _, _, _, _, _, rfl, hX.bump (by decide)⟩
  · refine b_X11_back [] ?_
    conv => whnf
    have hz : 0 < a.2.2 3 := by
      have : ¬ a.2.2 3 = 0 := fun z => c7 (by show I 4 = 0; rw [e4, z]; rfl)
      omega
    refine s_bk hx9 e3 e4 hz (fun w2 hw2 => ?_)
    refine b_X11_back [] ?_
    conv => whnf
    obtain ⟨b1, b2⟩ := hX.bk hx9 e3 h38 hz w2
    rw [b2] at hw2
    exact h0 (by omega) w2 hw2 _ ⟨_, _, _, _, _, _, rfl, b1⟩
