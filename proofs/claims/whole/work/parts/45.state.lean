/-! the model's wire is the class's; the state of both, told without either; SPECS of the model over it -/
def mR (m : MS) (w : WS) : Prop := (∀ i, i < 4 → m.1 (i + 5) = w.1 i) ∧ ∀ i, i < 4 → ag8 (m.2 (i + 1)) (w.2 i)
def mX (m : MS) (w : WS) (n : Nat) (A P : Nat → Nat) : Prop := mR m w ∧ wOk w n A P
theorem mX.n {m : MS} {w : WS} {n : Nat} {A P : Nat → Nat} (h : mX m w n A P) : m.1 5 = nI n := (h.1.1 0 (by decide)).trans h.2.1
theorem mX.n8 {m : MS} {w : WS} {n : Nat} {A P : Nat → Nat} (h : mX m w n A P) : n ≤ 8 := h.2.2.1
theorem mX.br {m : MS} {w : WS} {n : Nat} {A P : Nat → Nat} (h : mX m w n A P) : m.1 6 = w.1 1 := h.1.1 1 (by decide)
theorem mX.cu {m : MS} {w : WS} {n : Nat} {A P : Nat → Nat} (h : mX m w n A P) : m.1 7 = w.1 2 := h.1.1 2 (by decide)
theorem mX.dy {m : MS} {w : WS} {n : Nat} {A P : Nat → Nat} (h : mX m w n A P) : m.1 8 = w.1 3 := h.1.1 3 (by decide)
theorem mX.k {m : MS} {w : WS} {n : Nat} {A P : Nat → Nat} (h : mX m w n A P) {t : Nat} (ht : t < 8) : m.2 1 t = w.2 0 t := h.1.2 0 (by decide) t ht
theorem mX.f {m : MS} {w : WS} {n : Nat} {A P : Nat → Nat} (h : mX m w n A P) {t : Nat} (ht : t < 8) : m.2 2 t = w.2 1 t := h.1.2 1 (by decide) t ht
theorem mX.a {m : MS} {w : WS} {n : Nat} {A P : Nat → Nat} (h : mX m w n A P) {t : Nat} (ht : t < 8) : m.2 3 t = w.2 2 t := h.1.2 2 (by decide) t ht
theorem mX.w {m : MS} {w : WS} {n : Nat} {A P : Nat → Nat} (h : mX m w n A P) {t : Nat} (ht : t < 8) : m.2 4 t = w.2 3 t := h.1.2 3 (by decide) t ht
theorem mX.wA {m : MS} {w : WS} {n : Nat} {A P : Nat → Nat} (h : mX m w n A P) {j : Nat} (hj : j < n) : m.2 4 j = nI (A j) ∧ A j < n ∧ P (A j) = j := by
  obtain ⟨h1, h2, h3⟩ := h.2.2.2.1 j hj
  exact ⟨(h.w (by have := h.n8; omega)).trans h1, h2, h3⟩
theorem mX.P {m : MS} {w : WS} {n : Nat} {A P : Nat → Nat} (h : mX m w n A P) {t : Nat} (ht : t < n) : P t < n ∧ A (P t) = t := (h.2.2.2.2 t ht).2
theorem mX.ok {m : MS} {w : WS} {n : Nat} {A P : Nat → Nat} (h : mX m w n A P) : mOk m n A P := ⟨h.n, h.n8, fun _ hj => h.wA hj, fun _ ht => h.P ht⟩
theorem mX.B {m : MS} {w : WS} {n : Nat} {A P : Nat → Nat} (h : mX m w n A P) : wB (mW m) w n := ⟨h.br, h.cu, h.1.2 0 (by decide), h.1.2 1 (by decide), fun j hj => h.w (by have := h.n8; omega)⟩
theorem m_fb {m : MS} {w : WS} {n t : Nat} {A P : Nat → Nat} {v : Int32} {s : S3} {K : Option Value → AH → Prop} (h : mX m w n A P) (ht : t < n) (hv : ¬ v ≤ 0) (hK : ∀ s2, sAg s2 (blw w n (P t) v) → bwI n s2 → K none (mC m s2.1 s2.2.2)) : am_M i_X12_findBlow [.ref 0, .int (nI t), .int v] (mC m s.1 s.2.2) K := by
  refine m_findBlow h.ok ht hv (fun g2 hg => ?_)
  have e : blw (mW m) n (P t) v = blw w n (P t) v := blw_cg h.B (fun j hj => ⟨(h.2.2.2.1 j hj).1, by have := (h.2.2.2.1 j hj).2.1; have := h.n8; omega⟩) (h.P ht).1 v
  rw [e] at hg ⊢
  have hs : sAg (g2, (blw w n (P t) v).2) (blw w n (P t) v) := ⟨hg, rfl⟩
  exact hK (g2, (blw w n (P t) v).2) hs (hs.bw (bw_blw h.2 (h.P ht).1 v))
theorem v_b {b : Nat} (h : 1 ≤ b) (h2 : b < 2 ^ 31) : ¬ nI b ≤ 0 := fun z => absurd ((nI_leI (a := b) (b := 0) h2 (by decide)).mp (by rw [nI_0]; exact z)) (by omega)
/-! refusals -/
theorem fNoTh_if (t x : Int32) : fNoTh t x = if fIsTh t x = true then 0 else Int32.ofInt (-1) := by
  unfold fNoTh fIsTh
  by_cases h : x < 0
  · simp [h]
  · by_cases h2 : t ≤ x
    · simp [h, h2, Int32.not_lt.mpr h2]
    · simp [h, h2, Int32.not_le.mp h2, nI_0]
theorem fUnk_if (x b : Int32) : fUnk x b = if fIn x (nI 0) b = true then 0 else Int32.ofInt (-2) := by
  unfold fUnk fIn
  rw [nI_0]
  by_cases h : x < 0
  · simp [h]
  · by_cases h2 : b < x
    · simp [h, h2, Int32.not_le.mpr h2]
    · simp [h, h2, Int32.not_lt.mp h2]
theorem fBound_nb (v : Int32) : fBound v (nI 1) (nI 60) = fNoBlow v := by
  unfold fBound fNoBlow fFirst fBelow fAbove
  by_cases h : nI 1 ≤ v
  · simp [h, nI_0]
  · have : ¬ Int32.ofInt (-4) = 0 := by decide
    simp [h, this]
theorem fNoBlow_0 {x : Int32} (h : fNoBlow x = 0) : ∃ b, 1 ≤ b ∧ b ≤ 60 ∧ x = nI b := by
  rw [← fBound_nb] at h
  unfold fBound at h
  by_cases h1 : nI 1 ≤ x
  · rw [if_pos h1] at h
    by_cases h2 : x ≤ nI 60
    · have : ¬ x < 0 := fun z => absurd (Int32.lt_of_le_of_lt h1 z) (by decide)
      obtain ⟨j, hj, rfl⟩ := nI_of this
      exact ⟨j, (nI_leI (by omega) hj).mp h1, (nI_leI hj (by omega)).mp h2, rfl⟩
    · rw [if_neg h2] at h; exact absurd h (by decide)
  · rw [if_neg h1] at h; exact absurd h (by decide)
theorem fUnk_0 {k : Nat} {x : Int32} (hk : k < 2 ^ 31) (h : fUnk x (nI k) = 0) : ∃ j, j ≤ k ∧ x = nI j := by
  unfold fUnk at h
  by_cases h1 : x < 0
  · rw [if_pos h1] at h; exact absurd h (by decide)
  · rw [if_neg h1] at h
    by_cases h2 : x ≤ nI k
    · obtain ⟨j, hj, rfl⟩ := nI_of h1
      exact ⟨j, (nI_leI hj hk).mp h2, rfl⟩
    · rw [if_neg h2] at h; exact absurd h (by decide)
def rfs (x : Int32) : Prop := x = Int32.ofInt (-1) ∨ x = Int32.ofInt (-2) ∨ x = Int32.ofInt (-3) ∨ x = Int32.ofInt (-4) ∨ x = Int32.ofInt (-6)
theorem fNoBlow_r {x : Int32} (h : ¬ fNoBlow x = 0) : rfs (fNoBlow x) := by
  rw [← fBound_nb] at h ⊢
  unfold fBound at h ⊢
  by_cases h1 : nI 1 ≤ x
  · rw [if_pos h1] at h ⊢
    by_cases h2 : x ≤ nI 60
    · rw [if_pos h2] at h; exact absurd nI_0 h
    · rw [if_neg h2]; simp [rfs]
  · rw [if_neg h1]; simp [rfs]
theorem fNoTh_r {t x : Int32} (h : ¬ fNoTh t x = 0) : rfs (fNoTh t x) := by
  rw [fNoTh_if] at h ⊢
  by_cases h1 : fIsTh t x = true
  · rw [if_pos h1] at h; exact absurd rfl h
  · rw [if_neg h1]; simp [rfs]
theorem fFirst_r {a b : Int32} (ha : ¬ a = 0 → rfs a) (hb : ¬ b = 0 → rfs b) (h : ¬ fFirst a b = 0) : rfs (fFirst a b) := by
  unfold fFirst at h ⊢
  by_cases h1 : a = 0
  · rw [if_pos h1] at h ⊢; exact hb h
  · rw [if_neg h1]; exact ha h1
theorem rfs_e {x : Int32} (h : rfs x) : refU x = fun f => upd f (-x).toNatClampNeg (f (-x).toNatClampNeg + nI 1) := by
  funext f
  rcases h with h | h | h | h | h <;> subst h <;> (unfold refU; rw [if_neg (by decide), if_neg (by decide)]; congr 1)
theorem rfs_in {x : Int32} (h : rfs x) : vp_in (-x) 7 := by
  rcases h with h | h | h | h | h <;> subst h <;> (unfold vp_in; decide)
theorem rfs_n {x : Int32} (h : rfs x) : ¬ x = 0 := by
  rcases h with h | h | h | h | h <;> subst h <;> decide
/-! the state, told without class or model: wires (now, the image, what can be taken back), rows (refusals, the row, letters), numbers (an image, in the row, letters, what can be taken back) -/
abbrev Ab : Type := (Nat → WS) × (Nat → Nat → Int32) × (Nat → Nat)
def pkW (w : WS) : Nat → Int32 := fun j => if j < 8 then w.2 0 j else if j < 16 then w.2 1 (j - 8) else if j < 24 then w.2 2 (j - 16) else if j < 32 then w.2 3 (j - 24) else w.1 (j - 32)
def kpt (f : Nat → Int32) (b : Nat) (w : WS) : Prop := ∀ j, j < 36 → f (40 * b + j) = pkW w j
def MR (a : Ab) (m : MS) : Prop := mR m (a.1 0) ∧ (∀ j, j < 7 → m.2 0 j = a.2.1 0 j) ∧ (m.1 24 = nI (a.2.2 1) ∧ ∀ j, j < a.2.2 1 → m.2 11 j = a.2.1 1 j) ∧ (m.1 13 = nI (a.2.2 2) ∧ ∀ j, j < a.2.2 2 → m.2 5 j = a.2.1 2 j) ∧ (m.1 17 = nI (a.2.2 0) ∧ (a.2.2 0 = 1 → kpt (m.2 9) 0 (a.1 1))) ∧ m.1 20 = nI (a.2.2 3) ∧ ∀ k, k < a.2.2 3 → kpt (m.2 9) (3 + k) (a.1 (2 + k))
def nO (w : WS) : Nat := (w.1 0).toNatClampNeg
def aO (w : WS) (j : Nat) : Nat := (w.2 3 j).toNatClampNeg
/-- a wire as calls can leave it -/
def wG (w : WS) : Prop := wOk w (nO w) (aO w) (plW w) ∧ (∀ t, t < nO w → (∃ k, k ≤ 5 ∧ w.2 0 t = nI k) ∧ (∃ f, f ≤ 9 ∧ w.2 1 t = nI f) ∧ ∃ f, f ≤ 9 ∧ w.2 2 t = nI f) ∧ (∀ j, nO w ≤ j → bitN (w.1 1) j = false) ∧ ∃ d, d ≤ 999 ∧ w.1 3 = nI d
def Inv (a : Ab) : Prop := wG (a.1 0) ∧ a.2.2 0 ≤ 1 ∧ (a.2.2 0 = 1 → wG (a.1 1)) ∧ a.2.2 1 ≤ 12 ∧ a.2.2 2 ≤ 96 ∧ a.2.2 3 ≤ 8 ∧ ∀ k, k < a.2.2 3 → wG (a.1 (2 + k))
def bump (a : Ab) (x : Int32) : Ab := (a.1, va_up a.2.1 0 (refU x (a.2.1 0)), a.2.2)
def qB (a : Ab) (x : Int32) : Ab := if x = 0 then a else bump a x
def qA (x y : Int32) : Int32 := if x = 0 then y else x
theorem qA_0 {x y : Int32} (h : x = 0) : qA x y = y := if_pos h
theorem qA_n {x y : Int32} (h : ¬ x = 0) : qA x y = x := if_neg h
theorem qB_0 {a : Ab} {x : Int32} (h : x = 0) : qB a x = a := if_pos h
theorem qB_n {a : Ab} {x : Int32} (h : ¬ x = 0) : qB a x = bump a x := if_neg h
theorem Inv.qB {a : Ab} {x : Int32} (h : Inv a) : Inv (qB a x) := by
  by_cases hx : x = 0
  · rw [qB_0 hx]; exact h
  · rw [qB_n hx]; exact h
theorem MR.x {a : Ab} {m : MS} (h : MR a m) (hI : Inv a) : mX m (a.1 0) (nO (a.1 0)) (aO (a.1 0)) (plW (a.1 0)) := ⟨h.1, hI.1.1⟩
theorem MR.n {a : Ab} {m : MS} (h : MR a m) : m.1 5 = (a.1 0).1 0 := h.1.1 0 (by decide)
theorem Inv.n {a : Ab} (h : Inv a) : (a.1 0).1 0 = nI (nO (a.1 0)) := h.1.1.1
theorem Inv.n8 {a : Ab} (h : Inv a) : nO (a.1 0) ≤ 8 := h.1.1.2.1
theorem MR.bump {a : Ab} {m : MS} {x : Int32} (h : MR a m) (hx : rfs x) : MR (qB a x) (setA m 0 (refU x (m.2 0))) := by
  rw [qB_n (rfs_n hx)]
  obtain ⟨h1, h2, h3, h4, h5, h6, h7⟩ := h
  refine ⟨⟨h1.1, fun i hi => ?_⟩, fun j hj => ?_, ⟨h3.1, h3.2⟩, ⟨h4.1, h4.2⟩, ⟨h5.1, h5.2⟩, h6, h7⟩
  · have : (setA m 0 (refU x (m.2 0))).2 (i + 1) = m.2 (i + 1) := by
      show va_up m.2 0 (refU x (m.2 0)) (i + 1) = _
      unfold va_up
      rw [if_neg (by omega)]
    rw [this]; exact h1.2 i hi
  · show refU x (m.2 0) j = refU x (a.2.1 0) j
    rw [rfs_e hx]
    have e : (-x).toNatClampNeg < 7 := by rcases hx with h | h | h | h | h <;> subst h <;> decide
    simp only [upd]
    rw [h2 _ e, h2 j hj]
theorem m_no {m : MS} {s : S3} {x : Int32} (hx : rfs x) {K : Option Value → AH → Prop} (hK : K (some (.int (x))) (mC (setA m 0 (refU x (m.2 0))) s.1 s.2.2)) : am_M i_X12_no [.ref 0, .int x] (mC m s.1 s.2.2) K := by
  refine e_X12_no [] ?_
  conv => whnf
  refine ⟨(rfs_in hx), ?_⟩
  conv => whnf
  refine ⟨(rfs_in hx), ?_⟩
  conv => whnf
  rw [rfs_e hx] at hK
  exact hK
theorem m_lowest {m : MS} {s : S3} {x : Int32} (hx : rfs x) {K : Option Value → AH → Prop} (hK : K (some (.long (Int64.ofNat 4000000000000000000 - x.toInt64))) (mC (setA m 0 (refU x (m.2 0))) s.1 s.2.2)) : am_M i_X12_lowest [.ref 0, .int x] (mC m s.1 s.2.2) K := by
  refine e_X12_lowest [] ?_
  conv => whnf
  refine ⟨(rfs_in hx), ?_⟩
  conv => whnf
  refine ⟨(rfs_in hx), ?_⟩
  conv => whnf
  rw [rfs_e hx] at hK
  exact hK
theorem m_nb {v : Int32} {h : AH} {K : Option Value → AH → Prop} (hK : K (some (.int (fNoBlow v))) h) : am_M i_X12_notBlow [.int v] h K := by
  rw [← fBound_nb] at hK
  exact m_notBlow hK
theorem m_isTR {a : Ab} {m : MS} {s : S3} {x : Int32} (hM : MR a m) {K : Option Value → AH → Prop} (hK : K (some (.int (bI (fIsTh ((a.1 0).1 0) x)))) (mC m s.1 s.2.2)) : am_M i_X12_isThing [.ref 0, .int x] (mC m s.1 s.2.2) K := by
  rw [← hM.n] at hK
  exact m_isThing hK
theorem fIsTh_t {n t : Nat} (h : t < n) (hn : n ≤ 8) : fIsTh (nI n) (nI t) = true := by
  unfold fIsTh
  rw [decide_eq_false (nI_pos (by omega)), decide_eq_false (nI_ge h (by omega))]
  rfl
theorem m_isT {m : MS} {s : S3} {w : WS} {n t : Nat} {A P : Nat → Nat} (h : mX m w n A P) (ht : t < n) {K : Option Value → AH → Prop} (hK : K (some (.int (nI 1))) (mC m s.1 s.2.2)) : am_M i_X12_isThing [.ref 0, .int (nI t)] (mC m s.1 s.2.2) K := by
  refine m_isThing ?_
  rw [h.n, fIsTh_t ht h.n8]
  exact hK
theorem m_bc {n : Nat} {s : S3} {h : AH} (hb : bwI n s) (hn : n ≤ 8) {K : Option Value → AH → Prop} (hK : K (some (.int (fBc s.2.2))) h) : am_M i_X12_bits [.int s.2.2] h K := by
  refine m_bits ?_
  obtain ⟨k, h1, h2, h3⟩ := hb.v hn
  rw [h3] at hK ⊢
  rw [fBits_fBc h1]
  exact hK
theorem m_hs {s : Int32} {t : Nat} {h : AH} (ht : t < 32) {K : Option Value → AH → Prop} (hK : K (some (.int (bI (hasB s (nI t))))) h) : am_M i_X12_has [.int s, .int (nI t)] h K := by
  refine m_has ?_
  rw [hasM_B s t ht]
  exact hK
theorem m_n2 {a : Ab} {m : MS} {s : S3} {x y : Int32} (hM : MR a m) {K : Option Value → AH → Prop} (hK : K (some (.int (fFirst (fNoTh ((a.1 0).1 0) x) (fNoTh ((a.1 0).1 0) y)))) (mC m s.1 s.2.2)) : am_M i_X12_notTwo [.ref 0, .int x, .int y] (mC m s.1 s.2.2) K := by
  refine e_X12_notTwo [] ?_
  conv => whnf
  refine m_isTR hM ?_
  refine b_X12_notTwo [] ?_
  conv => whnf
  refine ⟨fun c5 => ?_, fun c5 => ?_⟩
  · refine b_X12_notTwo [] ?_
    conv => whnf
    refine b_X12_notTwo [] ?_
    conv => whnf
    rw [fNoTh_if, if_neg (by rw [bI_0.mp c5]; decide)] at hK
    exact hK
  · conv => whnf
    refine m_isTR hM ?_
    refine b_X12_notTwo [] ?_
    conv => whnf
    refine ⟨fun c13 => ?_, fun c13 => ?_⟩
    · conv => whnf
      refine b_X12_notTwo [] ?_
      conv => whnf
      rw [fNoTh_if, if_pos (bI_n0.mp c5), fNoTh_if, if_neg (by rw [bI_0.mp c13]; decide)] at hK
      exact hK
    · refine b_X12_notTwo [] ?_
      conv => whnf
      rw [fNoTh_if, if_pos (bI_n0.mp c5), fNoTh_if, if_pos (bI_n0.mp c13)] at hK
      exact hK
def mgI (s : S3) (i : Nat) (x : Int32) : Int32 := if 0 < s.1 i then x + nI 1 else x
theorem ml_mg {m : MS} {w : WS} {n : Nat} {A P : Nat → Nat} {s : S3} {K : Option Value → AH → Prop} (h : mX m w n A P) : ∀ (k i : Nat) (x : Int32), i + k = n → (K (some (.int (itr (mgI s) k i x))) (mC m s.1 s.2.2)) → am_E i_X12_manyGet 4 [some (.ref 0), some (.int x), some (.int (nI i))] [] (mC m s.1 s.2.2) K := by
  intro k
  induction k with
  | zero =>
    intro i x hi hK
    obtain rfl : i = n := by omega
    refine b_X12_manyGet [4] ?_
    conv => whnf
    refine ⟨fun c9 => ?_, fun c9 => absurd (by rw [h.n]; exact nI_le (Nat.le_refl _) (by have := h.n8; omega)) c9⟩
    refine b_X12_manyGet [4] ?_
    conv => whnf
    exact hK
  | succ k ih =>
    intro i x hi hK
    refine b_X12_manyGet [4] ?_
    conv => whnf
    refine ⟨fun c9 => absurd c9 (by rw [h.n]; exact nI_ge (by omega) (by have := h.n8; omega)), fun c9 => ?_⟩
    conv => whnf
    refine ⟨(vp_in_nI (by have := h.n8; omega) (by decide)), ?_⟩
    conv => whnf
    rw [nI_clamp (show i < 2 ^ 31 by have := h.n8; omega)]
    refine ⟨fun c19 => ?_, fun c19 => ?_⟩
    · refine b_X12_manyGet [4] ?_
      conv => whnf
      have e4 : mgI s i x = x := if_neg (Int32.not_lt.mpr c19)
      simp only [itr, e4] at hK
      rw [show x + nI 0 = x from by rw [nI_0, Int32.add_zero]]
      have h2 := ih (i + 1) x (by omega) hK
      rw [← nI_add i 1] at h2
      exact h2
    · conv => whnf
      refine b_X12_manyGet [4] ?_
      conv => whnf
      have e4 : mgI s i x = x + nI 1 := if_pos (Int32.not_le.mp c19)
      simp only [itr, e4] at hK
      have h2 := ih (i + 1) _ (by omega) hK
      rw [← nI_add i 1] at h2
      exact h2
theorem mg_pc {s : S3} {n : Nat} (hb : bwI n s) (hn : n ≤ 8) : itr (mgI s) n 0 (nI 0) = fBc s.2.1 := by
  obtain ⟨k, h1, h2, h3⟩ := hb.h hn
  rw [h3, fBc_pc h1, pcN_8 hn h2]
  refine cnt_pc (g := s.1) _ (fun i x => rfl) n (fun j hj => ?_)
  rw [← bitN_nI k j (by omega), ← h3]
  exact hb.1 j (by omega)
theorem m_mg {m : MS} {w : WS} {n : Nat} {A P : Nat → Nat} {s : S3} (h : mX m w n A P) (hb : bwI n s) {K : Option Value → AH → Prop} (hK : K (some (.int (fBc s.2.1))) (mC m s.1 s.2.2)) : am_M i_X12_manyGet [.ref 0] (mC m s.1 s.2.2) K := by
  refine e_X12_manyGet [4] ?_
  conv => whnf
  rw [← mg_pc hb h.n8] at hK
  exact ml_mg h n 0 (nI 0) (by omega) hK
def wgI (s : S3) (i : Nat) (x : Int32) : Int32 := x ||| (if 0 < s.1 i then nI 1 <<< (nI i &&& 31) else nI 0)
theorem ml_wg {m : MS} {w : WS} {n : Nat} {A P : Nat → Nat} {s : S3} {K : Option Value → AH → Prop} (h : mX m w n A P) : ∀ (k i : Nat) (x : Int32), i + k = n → (K (some (.int (itr (wgI s) k i x))) (mC m s.1 s.2.2)) → am_E i_X12_whoGet 4 [some (.ref 0), some (.int x), some (.int (nI i))] [] (mC m s.1 s.2.2) K := by
  intro k
  induction k with
  | zero =>
    intro i x hi hK
    obtain rfl : i = n := by omega
    refine b_X12_whoGet [4] ?_
    conv => whnf
    refine ⟨fun c9 => ?_, fun c9 => absurd (by rw [h.n]; exact nI_le (Nat.le_refl _) (by have := h.n8; omega)) c9⟩
    refine b_X12_whoGet [4] ?_
    conv => whnf
    exact hK
  | succ k ih =>
    intro i x hi hK
    refine b_X12_whoGet [4] ?_
    conv => whnf
    refine ⟨fun c9 => absurd c9 (by rw [h.n]; exact nI_ge (by omega) (by have := h.n8; omega)), fun c9 => ?_⟩
    conv => whnf
    refine ⟨(vp_in_nI (by have := h.n8; omega) (by decide)), ?_⟩
    conv => whnf
    rw [nI_clamp (show i < 2 ^ 31 by have := h.n8; omega)]
    refine ⟨fun c19 => ?_, fun c19 => ?_⟩
    · refine b_X12_whoGet [4] ?_
      conv => whnf
      have e4 : wgI s i x = x ||| nI 0 := by rw [wgI, if_neg (Int32.not_lt.mpr c19)]
      simp only [itr, e4] at hK
      have h2 := ih (i + 1) _ (by omega) hK
      rw [← nI_add i 1] at h2
      exact h2
    · conv => whnf
      refine b_X12_whoGet [4] ?_
      conv => whnf
      have e4 : wgI s i x = x ||| (nI 1 <<< (nI i &&& 31)) := by rw [wgI, if_pos (Int32.not_le.mp c19)]
      simp only [itr, e4] at hK
      have h2 := ih (i + 1) _ (by omega) hK
      rw [← nI_add i 1] at h2
      exact h2
theorem wg_bit {s : S3} : ∀ n, n ≤ 8 → ∀ j, j < 32 → bitN (itr (wgI s) n 0 (nI 0)) j = (decide (j < n) && decide (0 < s.1 j)) := by
  intro n
  induction n with
  | zero => intro _ j _; rw [show itr (wgI s) 0 0 (nI 0) = nI 0 from rfl, bitN_0]; simp
  | succ n ih =>
    intro hn j hj
    rw [itr_add, wgI, bitN_or, ih (by omega) j hj, Nat.zero_add]
    by_cases q : 0 < s.1 n
    · rw [if_pos q, bitN_tp n j (by omega)]
      by_cases z : n = j
      · subst z; simp [q]
      · have : (decide (j < n + 1)) = decide (j < n) := by rw [decide_eq_decide]; omega
        simp [z, this]
    · rw [if_neg q, bitN_0]
      by_cases z : n = j
      · subst z; simp [q]
      · have : (decide (j < n + 1)) = decide (j < n) := by rw [decide_eq_decide]; omega
        simp [this]
theorem wg_h {s : S3} {n : Nat} (hb : bwI n s) (hn : n ≤ 8) : itr (wgI s) n 0 (nI 0) = s.2.1 := by
  apply bitN_ext
  intro j hj
  rw [wg_bit n hn j hj]
  by_cases q : j < n
  · have := hb.1 j (by omega)
    by_cases z : 0 < s.1 j
    · rw [this.mpr z]; simp [q, z]
    · cases y : bitN s.2.1 j
      · simp [z]
      · exact absurd (this.mp y) z
  · rw [hb.2.2.1 j (by omega)]; simp [q]
theorem m_wg {m : MS} {w : WS} {n : Nat} {A P : Nat → Nat} {s : S3} (h : mX m w n A P) (hb : bwI n s) {K : Option Value → AH → Prop} (hK : K (some (.int (s.2.1))) (mC m s.1 s.2.2)) : am_M i_X12_whoGet [.ref 0] (mC m s.1 s.2.2) K := by
  refine e_X12_whoGet [4] ?_
  conv => whnf
  rw [← wg_h hb h.n8] at hK
  exact ml_wg h n 0 (nI 0) (by omega) hK
theorem fJuM_J (k : Int32) {v : Int32} (h : 0 ≤ v) : fJuM k v = fJump k v := by
  unfold fJuM fJump
  by_cases z : v = 0
  · rw [if_pos z, if_neg (by rw [z]; decide)]
  · rw [if_neg z, if_pos (Int32.lt_of_le_of_ne h (fun q => z q.symm))]
theorem m_jm {m : MS} {w : WS} {n t : Nat} {A P : Nat → Nat} {s : S3} (h : mX m w n A P) (hb : bwI n s) (ht : t < 8) {K : Option Value → AH → Prop} (hK : K (some (.int (fJump (w.2 0 t) (s.1 t)))) (mC m s.1 s.2.2)) : am_M i_X12_jumpOf [.ref 0, .int (nI t), .int (s.1 t)] (mC m s.1 s.2.2) K := by
  refine m_jumpOf ht ?_
  rw [h.k ht, fJuM_J _ (hb.2.1 t ht)]
  exact hK
theorem ml_aj {m : MS} {w : WS} {n : Nat} {A P : Nat → Nat} {s : S3} (hb : bwI n s) {K : Option Value → AH → Prop} (h : mX m w n A P) : ∀ (k i : Nat) (x : Int32), i + k = n → (K (some (.int (itr (fun t x => x + fJump (w.2 0 t) (s.1 t)) k i x))) (mC m s.1 s.2.2)) → am_E i_X12_allJumps 4 [some (.ref 0), some (.int x), some (.int (nI i))] [] (mC m s.1 s.2.2) K := by
  intro k
  induction k with
  | zero =>
    intro i x hi hK
    obtain rfl : i = n := by omega
    refine b_X12_allJumps [4] ?_
    conv => whnf
    refine ⟨fun c9 => ?_, fun c9 => absurd (by rw [h.n]; exact nI_le (Nat.le_refl _) (by have := h.n8; omega)) c9⟩
    refine b_X12_allJumps [4] ?_
    conv => whnf
    exact hK
  | succ k ih =>
    intro i x hi hK
    refine b_X12_allJumps [4] ?_
    conv => whnf
    refine ⟨fun c9 => absurd c9 (by rw [h.n]; exact nI_ge (by omega) (by have := h.n8; omega)), fun c9 => ?_⟩
    conv => whnf
    refine ⟨(vp_in_nI (by have := h.n8; omega) (by decide)), ?_⟩
    conv => whnf
    rw [nI_clamp (show i < 2 ^ 31 by have := h.n8; omega)]
    refine m_jm h hb (by have := h.n8; omega) ?_
    refine b_X12_allJumps [4] ?_
    conv => whnf
    have h2 := ih (i + 1) _ (by omega) hK
    rw [← nI_add i 1] at h2
    exact h2
theorem m_aj {m : MS} {w : WS} {n : Nat} {A P : Nat → Nat} {s : S3} (h : mX m w n A P) (hb : bwI n s) {K : Option Value → AH → Prop} (hK : K (some (.int (itr (fun t x => x + fJump (w.2 0 t) (s.1 t)) n 0 (nI 0)))) (mC m s.1 s.2.2)) : am_M i_X12_allJumps [.ref 0] (mC m s.1 s.2.2) K := by
  refine e_X12_allJumps [4] ?_
  conv => whnf
  exact ml_aj hb h n 0 (nI 0) (by omega) hK
