/-! SPECS: the past -/
def ksA (i : Nat) : Option Nat := if i < 8 then some (2 + 6 * i) else none
def qO (x m : Int32) : AC := .inr (.inr (4, [.ref 1, .int x, .int m]))
def qC (x m : Int32) (h : Nat → WS) (w : WS) : AH := [qO x m, .inr (.inl (8, ksA)), wO 2 (h 0), .inl (8, (h 0).2 0), .inl (8, (h 0).2 1), .inl (8, (h 0).2 2), .inl (8, (h 0).2 3), .inl (8, (h 0).2 4), wO 8 (h 1), .inl (8, (h 1).2 0), .inl (8, (h 1).2 1), .inl (8, (h 1).2 2), .inl (8, (h 1).2 3), .inl (8, (h 1).2 4), wO 14 (h 2), .inl (8, (h 2).2 0), .inl (8, (h 2).2 1), .inl (8, (h 2).2 2), .inl (8, (h 2).2 3), .inl (8, (h 2).2 4), wO 20 (h 3), .inl (8, (h 3).2 0), .inl (8, (h 3).2 1), .inl (8, (h 3).2 2), .inl (8, (h 3).2 3), .inl (8, (h 3).2 4), wO 26 (h 4), .inl (8, (h 4).2 0), .inl (8, (h 4).2 1), .inl (8, (h 4).2 2), .inl (8, (h 4).2 3), .inl (8, (h 4).2 4), wO 32 (h 5), .inl (8, (h 5).2 0), .inl (8, (h 5).2 1), .inl (8, (h 5).2 2), .inl (8, (h 5).2 3), .inl (8, (h 5).2 4), wO 38 (h 6), .inl (8, (h 6).2 0), .inl (8, (h 6).2 1), .inl (8, (h 6).2 2), .inl (8, (h 6).2 3), .inl (8, (h 6).2 4), wO 44 (h 7), .inl (8, (h 7).2 0), .inl (8, (h 7).2 1), .inl (8, (h 7).2 2), .inl (8, (h 7).2 3), .inl (8, (h 7).2 4), wO 50 w, .inl (8, w.2 0), .inl (8, w.2 1), .inl (8, w.2 2), .inl (8, w.2 3), .inl (8, w.2 4)]
theorem ksA_i {i : Nat} (h : i < 8) : ksA (nI i).toNatClampNeg = some (2 + 6 * i) := by rw [nI_clamp (by omega), ksA, if_pos h]
def updW (h : Nat → WS) (i : Nat) (w : WS) : Nat → WS := fun j => if j = i then w else h j
set_option maxRecDepth 100000 in
theorem s_keep0 {m : Int32} {h : Nat → WS} {w : WS} {K : Option Value → AH → Prop} (hK : ∀ w2, wEq w2 w → K none (qC (nI 1) (minI (m + nI 1) (nI 8)) (updW h 0 w2) w)) : am_M i_X5_keep [.ref 0, .ref 50] (qC (nI 0) m h w) K := by
  refine e_X5_keep [] ?_
  conv => whnf
  refine ⟨(vp_in_nI (by omega) (by decide)), ?_⟩
  rw [ksA_i (by decide)]
  conv => whnf
  refine f_copy (w := h 0) (v := w) [2, 3, 4, 5, 6, 7, 50, 51, 52, 53, 54, 55] rfl rfl rfl ⟨rfl, rfl, rfl, rfl, rfl, rfl, rfl, rfl, rfl, rfl, rfl, rfl, trivial⟩ (fun w2 hw2 => ?_)
  conv => whnf
  refine b_X5_keep [] ?_
  conv => whnf
  refine ⟨(by decide), ?_⟩
  conv => whnf
  exact hK w2 hw2
set_option maxRecDepth 100000 in
theorem s_keep1 {m : Int32} {h : Nat → WS} {w : WS} {K : Option Value → AH → Prop} (hK : ∀ w2, wEq w2 w → K none (qC (nI 2) (minI (m + nI 1) (nI 8)) (updW h 1 w2) w)) : am_M i_X5_keep [.ref 0, .ref 50] (qC (nI 1) m h w) K := by
  refine e_X5_keep [] ?_
  conv => whnf
  refine ⟨(vp_in_nI (by omega) (by decide)), ?_⟩
  rw [ksA_i (by decide)]
  conv => whnf
  refine f_copy (w := h 1) (v := w) [8, 9, 10, 11, 12, 13, 50, 51, 52, 53, 54, 55] rfl rfl rfl ⟨rfl, rfl, rfl, rfl, rfl, rfl, rfl, rfl, rfl, rfl, rfl, rfl, trivial⟩ (fun w2 hw2 => ?_)
  conv => whnf
  refine b_X5_keep [] ?_
  conv => whnf
  refine ⟨(by decide), ?_⟩
  conv => whnf
  exact hK w2 hw2
set_option maxRecDepth 100000 in
theorem s_keep2 {m : Int32} {h : Nat → WS} {w : WS} {K : Option Value → AH → Prop} (hK : ∀ w2, wEq w2 w → K none (qC (nI 3) (minI (m + nI 1) (nI 8)) (updW h 2 w2) w)) : am_M i_X5_keep [.ref 0, .ref 50] (qC (nI 2) m h w) K := by
  refine e_X5_keep [] ?_
  conv => whnf
  refine ⟨(vp_in_nI (by omega) (by decide)), ?_⟩
  rw [ksA_i (by decide)]
  conv => whnf
  refine f_copy (w := h 2) (v := w) [14, 15, 16, 17, 18, 19, 50, 51, 52, 53, 54, 55] rfl rfl rfl ⟨rfl, rfl, rfl, rfl, rfl, rfl, rfl, rfl, rfl, rfl, rfl, rfl, trivial⟩ (fun w2 hw2 => ?_)
  conv => whnf
  refine b_X5_keep [] ?_
  conv => whnf
  refine ⟨(by decide), ?_⟩
  conv => whnf
  exact hK w2 hw2
set_option maxRecDepth 100000 in
theorem s_keep3 {m : Int32} {h : Nat → WS} {w : WS} {K : Option Value → AH → Prop} (hK : ∀ w2, wEq w2 w → K none (qC (nI 4) (minI (m + nI 1) (nI 8)) (updW h 3 w2) w)) : am_M i_X5_keep [.ref 0, .ref 50] (qC (nI 3) m h w) K := by
  refine e_X5_keep [] ?_
  conv => whnf
  refine ⟨(vp_in_nI (by omega) (by decide)), ?_⟩
  rw [ksA_i (by decide)]
  conv => whnf
  refine f_copy (w := h 3) (v := w) [20, 21, 22, 23, 24, 25, 50, 51, 52, 53, 54, 55] rfl rfl rfl ⟨rfl, rfl, rfl, rfl, rfl, rfl, rfl, rfl, rfl, rfl, rfl, rfl, trivial⟩ (fun w2 hw2 => ?_)
  conv => whnf
  refine b_X5_keep [] ?_
  conv => whnf
  refine ⟨(by decide), ?_⟩
  conv => whnf
  exact hK w2 hw2
set_option maxRecDepth 100000 in
theorem s_keep4 {m : Int32} {h : Nat → WS} {w : WS} {K : Option Value → AH → Prop} (hK : ∀ w2, wEq w2 w → K none (qC (nI 5) (minI (m + nI 1) (nI 8)) (updW h 4 w2) w)) : am_M i_X5_keep [.ref 0, .ref 50] (qC (nI 4) m h w) K := by
  refine e_X5_keep [] ?_
  conv => whnf
  refine ⟨(vp_in_nI (by omega) (by decide)), ?_⟩
  rw [ksA_i (by decide)]
  conv => whnf
  refine f_copy (w := h 4) (v := w) [26, 27, 28, 29, 30, 31, 50, 51, 52, 53, 54, 55] rfl rfl rfl ⟨rfl, rfl, rfl, rfl, rfl, rfl, rfl, rfl, rfl, rfl, rfl, rfl, trivial⟩ (fun w2 hw2 => ?_)
  conv => whnf
  refine b_X5_keep [] ?_
  conv => whnf
  refine ⟨(by decide), ?_⟩
  conv => whnf
  exact hK w2 hw2
set_option maxRecDepth 100000 in
theorem s_keep5 {m : Int32} {h : Nat → WS} {w : WS} {K : Option Value → AH → Prop} (hK : ∀ w2, wEq w2 w → K none (qC (nI 6) (minI (m + nI 1) (nI 8)) (updW h 5 w2) w)) : am_M i_X5_keep [.ref 0, .ref 50] (qC (nI 5) m h w) K := by
  refine e_X5_keep [] ?_
  conv => whnf
  refine ⟨(vp_in_nI (by omega) (by decide)), ?_⟩
  rw [ksA_i (by decide)]
  conv => whnf
  refine f_copy (w := h 5) (v := w) [32, 33, 34, 35, 36, 37, 50, 51, 52, 53, 54, 55] rfl rfl rfl ⟨rfl, rfl, rfl, rfl, rfl, rfl, rfl, rfl, rfl, rfl, rfl, rfl, trivial⟩ (fun w2 hw2 => ?_)
  conv => whnf
  refine b_X5_keep [] ?_
  conv => whnf
  refine ⟨(by decide), ?_⟩
  conv => whnf
  exact hK w2 hw2
set_option maxRecDepth 100000 in
theorem s_keep6 {m : Int32} {h : Nat → WS} {w : WS} {K : Option Value → AH → Prop} (hK : ∀ w2, wEq w2 w → K none (qC (nI 7) (minI (m + nI 1) (nI 8)) (updW h 6 w2) w)) : am_M i_X5_keep [.ref 0, .ref 50] (qC (nI 6) m h w) K := by
  refine e_X5_keep [] ?_
  conv => whnf
  refine ⟨(vp_in_nI (by omega) (by decide)), ?_⟩
  rw [ksA_i (by decide)]
  conv => whnf
  refine f_copy (w := h 6) (v := w) [38, 39, 40, 41, 42, 43, 50, 51, 52, 53, 54, 55] rfl rfl rfl ⟨rfl, rfl, rfl, rfl, rfl, rfl, rfl, rfl, rfl, rfl, rfl, rfl, trivial⟩ (fun w2 hw2 => ?_)
  conv => whnf
  refine b_X5_keep [] ?_
  conv => whnf
  refine ⟨(by decide), ?_⟩
  conv => whnf
  exact hK w2 hw2
set_option maxRecDepth 100000 in
theorem s_keep7 {m : Int32} {h : Nat → WS} {w : WS} {K : Option Value → AH → Prop} (hK : ∀ w2, wEq w2 w → K none (qC (nI 0) (minI (m + nI 1) (nI 8)) (updW h 7 w2) w)) : am_M i_X5_keep [.ref 0, .ref 50] (qC (nI 7) m h w) K := by
  refine e_X5_keep [] ?_
  conv => whnf
  refine ⟨(vp_in_nI (by omega) (by decide)), ?_⟩
  rw [ksA_i (by decide)]
  conv => whnf
  refine f_copy (w := h 7) (v := w) [44, 45, 46, 47, 48, 49, 50, 51, 52, 53, 54, 55] rfl rfl rfl ⟨rfl, rfl, rfl, rfl, rfl, rfl, rfl, rfl, rfl, rfl, rfl, rfl, trivial⟩ (fun w2 hw2 => ?_)
  conv => whnf
  refine b_X5_keep [] ?_
  conv => whnf
  refine ⟨(by decide), ?_⟩
  conv => whnf
  exact hK w2 hw2
set_option maxRecDepth 100000 in
theorem s_back0 {m : Int32} {h : Nat → WS} {w : WS} {K : Option Value → AH → Prop} (hK : ∀ w2, wEq w2 (h 7) → K (some (.int (m - nI 1))) (qC (nI 7) (m - nI 1) h w2)) : am_M i_X5_takeBack [.ref 0, .ref 50] (qC (nI 0) m h w) K := by
  have en : nI 0 + nI 8 - nI 1 - (nI 0 + nI 8 - nI 1) / nI 8 * nI 8 = nI 7 := by decide +kernel
  refine e_X5_takeBack [] ?_
  conv => whnf
  refine ⟨(by decide), ?_⟩
  conv => whnf
  refine ⟨(by rw [en]; exact vp_in_nI (by omega) (by decide)), ?_⟩
  rw [en, ksA_i (by decide)]
  conv => whnf
  refine f_copy (w := w) (v := h 7) [50, 51, 52, 53, 54, 55, 44, 45, 46, 47, 48, 49] rfl rfl rfl ⟨rfl, rfl, rfl, rfl, rfl, rfl, rfl, rfl, rfl, rfl, rfl, rfl, trivial⟩ (fun w2 hw2 => ?_)
  conv => whnf
  refine b_X5_takeBack [] ?_
  conv => whnf
  exact hK w2 hw2
set_option maxRecDepth 100000 in
theorem s_back1 {m : Int32} {h : Nat → WS} {w : WS} {K : Option Value → AH → Prop} (hK : ∀ w2, wEq w2 (h 0) → K (some (.int (m - nI 1))) (qC (nI 0) (m - nI 1) h w2)) : am_M i_X5_takeBack [.ref 0, .ref 50] (qC (nI 1) m h w) K := by
  have en : nI 1 + nI 8 - nI 1 - (nI 1 + nI 8 - nI 1) / nI 8 * nI 8 = nI 0 := by decide +kernel
  refine e_X5_takeBack [] ?_
  conv => whnf
  refine ⟨(by decide), ?_⟩
  conv => whnf
  refine ⟨(by rw [en]; exact vp_in_nI (by omega) (by decide)), ?_⟩
  rw [en, ksA_i (by decide)]
  conv => whnf
  refine f_copy (w := w) (v := h 0) [50, 51, 52, 53, 54, 55, 2, 3, 4, 5, 6, 7] rfl rfl rfl ⟨rfl, rfl, rfl, rfl, rfl, rfl, rfl, rfl, rfl, rfl, rfl, rfl, trivial⟩ (fun w2 hw2 => ?_)
  conv => whnf
  refine b_X5_takeBack [] ?_
  conv => whnf
  exact hK w2 hw2
set_option maxRecDepth 100000 in
theorem s_back2 {m : Int32} {h : Nat → WS} {w : WS} {K : Option Value → AH → Prop} (hK : ∀ w2, wEq w2 (h 1) → K (some (.int (m - nI 1))) (qC (nI 1) (m - nI 1) h w2)) : am_M i_X5_takeBack [.ref 0, .ref 50] (qC (nI 2) m h w) K := by
  have en : nI 2 + nI 8 - nI 1 - (nI 2 + nI 8 - nI 1) / nI 8 * nI 8 = nI 1 := by decide +kernel
  refine e_X5_takeBack [] ?_
  conv => whnf
  refine ⟨(by decide), ?_⟩
  conv => whnf
  refine ⟨(by rw [en]; exact vp_in_nI (by omega) (by decide)), ?_⟩
  rw [en, ksA_i (by decide)]
  conv => whnf
  refine f_copy (w := w) (v := h 1) [50, 51, 52, 53, 54, 55, 8, 9, 10, 11, 12, 13] rfl rfl rfl ⟨rfl, rfl, rfl, rfl, rfl, rfl, rfl, rfl, rfl, rfl, rfl, rfl, trivial⟩ (fun w2 hw2 => ?_)
  conv => whnf
  refine b_X5_takeBack [] ?_
  conv => whnf
  exact hK w2 hw2
set_option maxRecDepth 100000 in
theorem s_back3 {m : Int32} {h : Nat → WS} {w : WS} {K : Option Value → AH → Prop} (hK : ∀ w2, wEq w2 (h 2) → K (some (.int (m - nI 1))) (qC (nI 2) (m - nI 1) h w2)) : am_M i_X5_takeBack [.ref 0, .ref 50] (qC (nI 3) m h w) K := by
  have en : nI 3 + nI 8 - nI 1 - (nI 3 + nI 8 - nI 1) / nI 8 * nI 8 = nI 2 := by decide +kernel
  refine e_X5_takeBack [] ?_
  conv => whnf
  refine ⟨(by decide), ?_⟩
  conv => whnf
  refine ⟨(by rw [en]; exact vp_in_nI (by omega) (by decide)), ?_⟩
  rw [en, ksA_i (by decide)]
  conv => whnf
  refine f_copy (w := w) (v := h 2) [50, 51, 52, 53, 54, 55, 14, 15, 16, 17, 18, 19] rfl rfl rfl ⟨rfl, rfl, rfl, rfl, rfl, rfl, rfl, rfl, rfl, rfl, rfl, rfl, trivial⟩ (fun w2 hw2 => ?_)
  conv => whnf
  refine b_X5_takeBack [] ?_
  conv => whnf
  exact hK w2 hw2
set_option maxRecDepth 100000 in
theorem s_back4 {m : Int32} {h : Nat → WS} {w : WS} {K : Option Value → AH → Prop} (hK : ∀ w2, wEq w2 (h 3) → K (some (.int (m - nI 1))) (qC (nI 3) (m - nI 1) h w2)) : am_M i_X5_takeBack [.ref 0, .ref 50] (qC (nI 4) m h w) K := by
  have en : nI 4 + nI 8 - nI 1 - (nI 4 + nI 8 - nI 1) / nI 8 * nI 8 = nI 3 := by decide +kernel
  refine e_X5_takeBack [] ?_
  conv => whnf
  refine ⟨(by decide), ?_⟩
  conv => whnf
  refine ⟨(by rw [en]; exact vp_in_nI (by omega) (by decide)), ?_⟩
  rw [en, ksA_i (by decide)]
  conv => whnf
  refine f_copy (w := w) (v := h 3) [50, 51, 52, 53, 54, 55, 20, 21, 22, 23, 24, 25] rfl rfl rfl ⟨rfl, rfl, rfl, rfl, rfl, rfl, rfl, rfl, rfl, rfl, rfl, rfl, trivial⟩ (fun w2 hw2 => ?_)
  conv => whnf
  refine b_X5_takeBack [] ?_
  conv => whnf
  exact hK w2 hw2
set_option maxRecDepth 100000 in
theorem s_back5 {m : Int32} {h : Nat → WS} {w : WS} {K : Option Value → AH → Prop} (hK : ∀ w2, wEq w2 (h 4) → K (some (.int (m - nI 1))) (qC (nI 4) (m - nI 1) h w2)) : am_M i_X5_takeBack [.ref 0, .ref 50] (qC (nI 5) m h w) K := by
  have en : nI 5 + nI 8 - nI 1 - (nI 5 + nI 8 - nI 1) / nI 8 * nI 8 = nI 4 := by decide +kernel
  refine e_X5_takeBack [] ?_
  conv => whnf
  refine ⟨(by decide), ?_⟩
  conv => whnf
  refine ⟨(by rw [en]; exact vp_in_nI (by omega) (by decide)), ?_⟩
  rw [en, ksA_i (by decide)]
  conv => whnf
  refine f_copy (w := w) (v := h 4) [50, 51, 52, 53, 54, 55, 26, 27, 28, 29, 30, 31] rfl rfl rfl ⟨rfl, rfl, rfl, rfl, rfl, rfl, rfl, rfl, rfl, rfl, rfl, rfl, trivial⟩ (fun w2 hw2 => ?_)
  conv => whnf
  refine b_X5_takeBack [] ?_
  conv => whnf
  exact hK w2 hw2
set_option maxRecDepth 100000 in
theorem s_back6 {m : Int32} {h : Nat → WS} {w : WS} {K : Option Value → AH → Prop} (hK : ∀ w2, wEq w2 (h 5) → K (some (.int (m - nI 1))) (qC (nI 5) (m - nI 1) h w2)) : am_M i_X5_takeBack [.ref 0, .ref 50] (qC (nI 6) m h w) K := by
  have en : nI 6 + nI 8 - nI 1 - (nI 6 + nI 8 - nI 1) / nI 8 * nI 8 = nI 5 := by decide +kernel
  refine e_X5_takeBack [] ?_
  conv => whnf
  refine ⟨(by decide), ?_⟩
  conv => whnf
  refine ⟨(by rw [en]; exact vp_in_nI (by omega) (by decide)), ?_⟩
  rw [en, ksA_i (by decide)]
  conv => whnf
  refine f_copy (w := w) (v := h 5) [50, 51, 52, 53, 54, 55, 32, 33, 34, 35, 36, 37] rfl rfl rfl ⟨rfl, rfl, rfl, rfl, rfl, rfl, rfl, rfl, rfl, rfl, rfl, rfl, trivial⟩ (fun w2 hw2 => ?_)
  conv => whnf
  refine b_X5_takeBack [] ?_
  conv => whnf
  exact hK w2 hw2
set_option maxRecDepth 100000 in
theorem s_back7 {m : Int32} {h : Nat → WS} {w : WS} {K : Option Value → AH → Prop} (hK : ∀ w2, wEq w2 (h 6) → K (some (.int (m - nI 1))) (qC (nI 6) (m - nI 1) h w2)) : am_M i_X5_takeBack [.ref 0, .ref 50] (qC (nI 7) m h w) K := by
  have en : nI 7 + nI 8 - nI 1 - (nI 7 + nI 8 - nI 1) / nI 8 * nI 8 = nI 6 := by decide +kernel
  refine e_X5_takeBack [] ?_
  conv => whnf
  refine ⟨(by decide), ?_⟩
  conv => whnf
  refine ⟨(by rw [en]; exact vp_in_nI (by omega) (by decide)), ?_⟩
  rw [en, ksA_i (by decide)]
  conv => whnf
  refine f_copy (w := w) (v := h 6) [50, 51, 52, 53, 54, 55, 38, 39, 40, 41, 42, 43] rfl rfl rfl ⟨rfl, rfl, rfl, rfl, rfl, rfl, rfl, rfl, rfl, rfl, rfl, rfl, trivial⟩ (fun w2 hw2 => ?_)
  conv => whnf
  refine b_X5_takeBack [] ?_
  conv => whnf
  exact hK w2 hw2
theorem s_forget {x m : Int32} {h : Nat → WS} {w : WS} {K : Option Value → AH → Prop} (hK : K none (qC x (nI 0) h w)) : am_M i_X5_forget [.ref 0] (qC x m h w) K := by
  refine e_X5_forget [] ?_
  conv => whnf
  exact hK
theorem s_keep {x : Nat} (hx : x < 8) {m : Int32} {h : Nat → WS} {w : WS} {K : Option Value → AH → Prop} (hK : ∀ w2, wEq w2 w → K none (qC (nI ((x + 1) % 8)) (minI (m + nI 1) (nI 8)) (updW h x w2) w)) : am_M i_X5_keep [.ref 0, .ref 50] (qC (nI x) m h w) K := by
  match x, hx, hK with
  | 0, _, hK => exact s_keep0 hK
  | 1, _, hK => exact s_keep1 hK
  | 2, _, hK => exact s_keep2 hK
  | 3, _, hK => exact s_keep3 hK
  | 4, _, hK => exact s_keep4 hK
  | 5, _, hK => exact s_keep5 hK
  | 6, _, hK => exact s_keep6 hK
  | 7, _, hK => exact s_keep7 hK
theorem s_back {x : Nat} (hx : x < 8) {m : Int32} {h : Nat → WS} {w : WS} {K : Option Value → AH → Prop} (hK : ∀ w2, wEq w2 (h ((x + 7) % 8)) → K (some (.int (m - nI 1))) (qC (nI ((x + 7) % 8)) (m - nI 1) h w2)) : am_M i_X5_takeBack [.ref 0, .ref 50] (qC (nI x) m h w) K := by
  match x, hx, hK with
  | 0, _, hK => exact s_back0 hK
  | 1, _, hK => exact s_back1 hK
  | 2, _, hK => exact s_back2 hK
  | 3, _, hK => exact s_back3 hK
  | 4, _, hK => exact s_back4 hK
  | 5, _, hK => exact s_back5 hK
  | 6, _, hK => exact s_back6 hK
  | 7, _, hK => exact s_back7 hK
