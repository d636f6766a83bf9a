/-! SPECS of the model: a valley is read -/
def nxF (q : Nat) (f : Nat → Int32) (i : Nat) : Int32 := if i < q then f i else Int32.ofInt (-1)
def pM (m : MS) (i c : Nat) (X Y Z : Nat → Int32) : MS := setA (setA (setA (setI (setI m 14 (nI i)) 15 (nI c)) 6 X) 7 Y) 8 Z
def tpe (m : MS) (q : Nat) (f : Nat → Int32) : Prop := m.1 13 = nI q ∧ q ≤ 96 ∧ ∀ j, j < q → m.2 5 j = f j
def dvF (f : Nat → Int32) : Nat → Nat → Int32 → Int32
  | 0, _, v => v
  | k + 1, i, v => dvF f k (i + 1) (nI 10 * v + f i - nI 48)
theorem isD_in (x : Int32) : isD x = fIn x (nI 48) (nI 57) := by
  unfold isD fIn
  by_cases h : x < nI 48
  · simp [h]
  · by_cases h2 : nI 57 < x
    · simp [h, h2]
    · simp [h, h2]
theorem inn_stop {q : Nat} {f : Nat → Int32} {k i : Nat} (h : fIn (nxF q f i) (nI 48) (nI 57) = false) : innF q f (k + 1) i = some i := by
  rw [innF]
  by_cases c : q ≤ i
  · rw [if_pos c]
  · rw [if_neg c]
    unfold nxF at h
    rw [if_pos (by omega), ← isD_in] at h
    rw [if_neg (by rw [h]; decide)]
theorem inn_go {q : Nat} {f : Nat → Int32} {k i : Nat} (h : fIn (nxF q f i) (nI 48) (nI 57) = true) : i < q ∧ innF q f (k + 1) i = innF q f k (i + 1) := by
  by_cases c : q ≤ i
  · unfold nxF at h
    rw [if_neg (by omega)] at h
    exact absurd h (by decide)
  · refine ⟨by omega, ?_⟩
    rw [innF, if_neg c]
    unfold nxF at h
    rw [if_pos (by omega), ← isD_in] at h
    rw [if_pos h]
theorem inn_add (q : Nat) (f : Nat → Int32) : ∀ (a b i : Nat), innF q f (a + b) i = match innF q f a i with | some j => some j | none => innF q f b (i + a) := by
  intro a
  induction a with
  | zero => intro b i; rw [Nat.zero_add]; rfl
  | succ a ih =>
    intro b i
    rw [show a + 1 + b = (a + b) + 1 by omega, innF, innF]
    by_cases c : q ≤ i
    · rw [if_pos c, if_pos c]
    · rw [if_neg c, if_neg c]
      by_cases d : isD (f i) = true
      · rw [if_pos d, if_pos d, ih, show i + 1 + a = i + (a + 1) by omega]
      · rw [if_neg d, if_neg d]
theorem inn_an {q : Nat} {f : Nat → Int32} {a b i : Nat} (h : innF q f a i = none) : innF q f (a + b) i = innF q f b (i + a) := by rw [inn_add, h]
theorem inn_as {q : Nat} {f : Nat → Int32} {a b i j : Nat} (h : innF q f a i = some j) : innF q f (a + b) i = some j := by rw [inn_add, h]
theorem m_nx {m : MS} {s : S3} {q c : Nat} {f X Y Z : Nat → Int32} {i : Nat} (ht : tpe m q f) (hi : i < 2 ^ 30) {K : Option Value → AH → Prop} (hK : K (some (.int (nxF q f i))) (mC (pM m (i) c X Y (Z)) s.1 s.2.2)) : am_M i_X12_next [.ref 0] (mC (pM m (i) c X Y (Z)) s.1 s.2.2) K := by
  obtain ⟨h1, h2, h3⟩ := ht
  refine e_X12_next [] ?_
  conv => whnf
  refine ⟨fun c8 => ?_, fun c8 => ?_⟩
  · refine b_X12_next [] ?_
    conv => whnf
    have hi2 : q ≤ i := (nI_leI (by omega) (by omega)).mp (by rw [← h1]; exact c8)
    unfold nxF at hK
    rw [if_neg (by omega)] at hK
    exact hK
  · conv => whnf
    have hi2 : i < q := by
      have : ¬ q ≤ i := fun z => c8 (by show m.1 13 ≤ nI i; rw [h1]; exact nI_le z (by omega))
      omega
    unfold nxF at hK
    rw [if_pos hi2, ← h3 i hi2] at hK
    refine ⟨(vp_in_nI (show i < 96 by omega) (by decide)), ?_⟩
    rw [show ((pM m i c X Y Z).1 14).toNatClampNeg = i from nI_clamp (by omega)]
    conv => whnf
    refine b_X12_next [] ?_
    conv => whnf
    exact hK
theorem ml_rd {m : MS} {s : S3} {q c : Nat} {f X Y Z : Nat → Int32} {p d i0 : Nat} (ht : tpe m q f) (hp : p < 144) (hd : d ≤ 3) (hi0 : i0 ≤ 200) {K : Option Value → AH → Prop}  : ∀ (k i : Nat) (v : Int32), i + k = d → ((innF q f k (i0 + i) = none → K (some (.int (nI 1))) (mC (pM m (i0 + d) c X Y (upd Z p (dvF f k (i0 + i) v))) s.1 s.2.2)) ∧ ∀ j, innF q f k (i0 + i) = some j → K (some (.int (nI 0))) (mC (pM m (j) c X Y (Z)) s.1 s.2.2)) → am_E i_X12_readsDigits 5 [some (.ref 0), some (.int (nI p)), some (.int (nI d)), some (.int v), some (.int (nI i))] [] (mC (pM m (i0 + i) c X Y (Z)) s.1 s.2.2) K := by
  intro k
  induction k with
  | zero =>
    intro i v hi hK
    obtain rfl : i = d := by omega
    refine b_X12_readsDigits [5] ?_
    conv => whnf
    refine ⟨fun c8 => ?_, fun c8 => absurd (nI_le (Nat.le_refl _) (by omega)) c8⟩
    refine b_X12_readsDigits [5] ?_
    conv => whnf
    refine ⟨(vp_in_nI hp (by decide)), ?_⟩
    rw [nI_clamp (show p < 2 ^ 31 by omega)]
    conv => whnf
    refine ⟨(by first | exact Or.inl nI_0 | exact Or.inr nI_one | assumption), ?_⟩
    exact hK.1 rfl
  | succ k ih =>
    intro i v hi hK
    refine b_X12_readsDigits [5] ?_
    conv => whnf
    refine ⟨fun c8 => absurd c8 (nI_ge (by omega) (by omega)), fun c8 => ?_⟩
    conv => whnf
    refine m_nx ht (by omega) ?_
    refine b_X12_readsDigits [5] ?_
    conv => whnf
    refine m_isIn ?_
    refine b_X12_readsDigits [5] ?_
    conv => whnf
    refine ⟨fun c22 => ?_, fun c22 => ?_⟩
    · conv => whnf
      refine ⟨(by first | exact Or.inl nI_0 | exact Or.inr nI_one | assumption), ?_⟩
      exact hK.2 _ (inn_stop (bI_0.mp c22))
    · refine b_X12_readsDigits [5] ?_
      conv => whnf
      obtain ⟨g1, g2⟩ := inn_go (k := k) (bI_n0.mp c22)
      rw [g2] at hK
      have g3 : nxF q f (i0 + i) = f (i0 + i) := if_pos g1
      refine m_nx ht (by omega) ?_
      refine b_X12_readsDigits [5] ?_
      conv => whnf
      rw [g3]
      have h2 := ih (i + 1) (nI 10 * v + f (i0 + i) - nI 48) (by omega) (by rw [show i0 + (i + 1) = i0 + i + 1 by omega]; exact hK)
      rw [show i0 + (i + 1) = i0 + i + 1 by omega, ← nI_add i 1] at h2
      unfold pM at h2
      rw [← nI_add (i0 + i) 1] at h2
      exact h2
theorem m_rd {m : MS} {s : S3} {q c : Nat} {f X Y Z : Nat → Int32} {i p d : Nat} (ht : tpe m q f) (hp : p < 144) (hd : d ≤ 3) (hi : i ≤ 200) {K : Option Value → AH → Prop} (hK : (innF q f d i = none → K (some (.int (nI 1))) (mC (pM m (i + d) c X Y (upd Z p (dvF f d i (nI 0)))) s.1 s.2.2)) ∧ ∀ j, innF q f d i = some j → K (some (.int (nI 0))) (mC (pM m (j) c X Y (Z)) s.1 s.2.2)) : am_M i_X12_readsDigits [.ref 0, .int (nI p), .int (nI d)] (mC (pM m (i) c X Y (Z)) s.1 s.2.2) K := by
  refine e_X12_readsDigits [5] ?_
  conv => whnf
  exact ml_rd ht hp hd hi d 0 (nI 0) (by omega) hK
def dg48 (f : Nat → Int32) (i : Nat) : Int32 := f i - nI 48
theorem dv1 (f : Nat → Int32) (i : Nat) : dvF f 1 i (nI 0) = dg48 f i := by
  show nI 10 * nI 0 + f i - nI 48 = _
  rw [show nI 10 * nI 0 = 0 by decide, Int32.zero_add]
  rfl
theorem dv2 (f : Nat → Int32) (i : Nat) : dvF f 2 i (nI 0) = nI 10 * dg48 f i + dg48 f (i + 1) := by
  show nI 10 * (nI 10 * nI 0 + f i - nI 48) + f (i + 1) - nI 48 = _
  rw [show nI 10 * nI 0 = 0 by decide, Int32.zero_add]
  unfold dg48
  rw [Int32.sub_eq_add_neg (nI 10 * (f i - nI 48) + f (i + 1)), Int32.add_assoc, ← Int32.sub_eq_add_neg]
/-- what a statement's digits left in the row told -/
def TZ (f : Nat → Int32) (b : Int32) (i p : Nat) (Z : Nat → Int32) : Prop := Z p = dg48 f i ∧ (b = nI 116 → Z (p + 1) = dg48 f (i + 1) ∧ Z (p + 2) = dg48 f (i + 2)) ∧ (b = nI 100 → Z (p + 1) = nI 10 * dg48 f (i + 1) + dg48 f (i + 2)) ∧ (b = nI 120 → Z (p + 1) = dg48 f (i + 1))
theorem m_ra {m : MS} {s : S3} {q c : Nat} {f X Y Z : Nat → Int32} {i p : Nat} {b : Int32} (ht : tpe m q f) (hp : p + 2 < 144) (hi : i ≤ 190) (hb : dgN b ≠ 0) {K : Option Value → AH → Prop} (hT : (innF q f (dgN b) i = none → ∀ Z2, (∀ j, j < p → Z2 j = Z j) → TZ f b i p Z2 → K (some (.int (nI 1))) (mC (pM m (i + dgN b) c X Y (Z2)) s.1 s.2.2))) (hF : (∀ j Z2, innF q f (dgN b) i = some j → K (some (.int (nI 0))) (mC (pM m (j) c X Y (Z2)) s.1 s.2.2))) : am_M i_X12_readsAll [.ref 0, .int b, .int (nI p)] (mC (pM m (i) c X Y (Z)) s.1 s.2.2) K := by
  have hd : b = nI 116 ∨ b = nI 100 ∨ b = nI 120 ∨ ((b = nI 99 ∨ b = nI 109) ∧ dgN b = 1) := by
    unfold dgN at hb ⊢
    by_cases c1 : b = nI 99
    · exact Or.inr (Or.inr (Or.inr ⟨Or.inl c1, if_pos c1⟩))
    · rw [if_neg c1] at hb ⊢
      by_cases c2 : b = nI 100
      · exact Or.inr (Or.inl c2)
      · rw [if_neg c2] at hb ⊢
        by_cases c3 : b = nI 109
        · exact Or.inr (Or.inr (Or.inr ⟨Or.inr c3, if_pos c3⟩))
        · rw [if_neg c3] at hb ⊢
          by_cases c4 : b = nI 116
          · exact Or.inl c4
          · rw [if_neg c4] at hb
            by_cases c5 : b = nI 120
            · exact Or.inr (Or.inr (Or.inl c5))
            · rw [if_neg c5] at hb; exact absurd rfl hb
  rcases hd with rfl | rfl | rfl | ⟨hb2, hd1⟩
  · refine e_X12_readsAll [] ?_
    conv => whnf
    refine ⟨fun z => absurd z (by decide), fun _ => ?_⟩
    conv => whnf
    refine ⟨fun _ => ?_, fun z => absurd rfl z⟩
    conv => whnf
    refine b_X12_readsAll [] ?_
    conv => whnf
    refine m_rd (i := i) (p := p) (d := 1) (Z := Z) ht (by omega) (by omega) (by omega) ⟨fun g0 => ?_, fun j g0 => ?_⟩
    rotate_left
    · refine b_X12_readsAll [] ?_
      conv => whnf
      refine ⟨fun _ => ?_, fun z => absurd (show nI 0 = 0 by decide) z⟩
      refine b_X12_readsAll [] ?_
      conv => whnf
      refine ⟨Or.inl nI_0, ?_⟩
      exact hF j _ (show innF q f 3 i = some j from (inn_as (a := 1) (b := 2) g0))
    refine b_X12_readsAll [] ?_
    conv => whnf
    refine ⟨fun z => absurd z (show ¬ nI 1 = 0 by decide), fun _ => ?_⟩
    conv => whnf
    rw [nI_add]
    refine m_rd (i := i + 1) (p := p + 1) (d := 1) (Z := (upd Z (p) (dvF f 1 (i) (nI 0)))) ht (by omega) (by omega) (by omega) ⟨fun g1 => ?_, fun j g1 => ?_⟩
    rotate_left
    · refine b_X12_readsAll [] ?_
      conv => whnf
      refine ⟨fun _ => ?_, fun z => absurd (show nI 0 = 0 by decide) z⟩
      refine b_X12_readsAll [] ?_
      conv => whnf
      refine ⟨Or.inl nI_0, ?_⟩
      exact hF j _ (show innF q f 3 i = some j from ((inn_an (a := 1) (b := 2) g0).trans (inn_as (a := 1) (b := 1) g1)))
    refine b_X12_readsAll [] ?_
    conv => whnf
    refine ⟨fun z => absurd z (show ¬ nI 1 = 0 by decide), fun _ => ?_⟩
    conv => whnf
    rw [nI_add]
    refine m_rd (i := i + 2) (p := p + 2) (d := 1) (Z := (upd (upd Z (p) (dvF f 1 (i) (nI 0))) (p + 1) (dvF f 1 (i + 1) (nI 0)))) ht (by omega) (by omega) (by omega) ⟨fun g2 => ?_, fun j g2 => ?_⟩
    rotate_left
    · refine b_X12_readsAll [] ?_
      conv => whnf
      refine ⟨fun _ => ?_, fun z => absurd (show nI 0 = 0 by decide) z⟩
      refine b_X12_readsAll [] ?_
      conv => whnf
      refine ⟨Or.inl nI_0, ?_⟩
      exact hF j _ (show innF q f 3 i = some j from ((inn_an (a := 1) (b := 2) g0).trans ((inn_an (a := 1) (b := 1) g1).trans g2)))
    refine b_X12_readsAll [] ?_
    conv => whnf
    refine ⟨fun z => absurd z (show ¬ nI 1 = 0 by decide), fun _ => ?_⟩
    conv => whnf
    refine b_X12_readsAll [] ?_
    conv => whnf
    refine ⟨Or.inr nI_one, ?_⟩
    have h9 := hT (show innF q f 3 i = none from ((inn_an (a := 1) (b := 2) g0).trans ((inn_an (a := 1) (b := 1) g1).trans g2))) (upd (upd (upd Z (p) (dvF f 1 (i) (nI 0))) (p + 1) (dvF f 1 (i + 1) (nI 0))) (p + 2) (dvF f 1 (i + 2) (nI 0))) (fun j hj => by unfold upd; rw [if_neg (by omega)]; rw [if_neg (by omega)]; rw [if_neg (by omega)]) ?_
    · exact h9
    · exact ⟨(by unfold upd; rw [if_neg (by omega)]; rw [if_neg (by omega)]; rw [if_pos rfl]; exact dv1 f i), fun _ => ⟨by unfold upd; rw [if_neg (by omega), if_pos rfl]; exact dv1 f (i + 1), by unfold upd; rw [if_pos rfl]; exact dv1 f (i + 2)⟩, fun z => absurd z (by decide), fun z => absurd z (by decide)⟩
  · refine e_X12_readsAll [] ?_
    conv => whnf
    refine ⟨fun _ => ?_, fun z => absurd rfl z⟩
    conv => whnf
    refine b_X12_readsAll [] ?_
    conv => whnf
    refine m_rd (i := i) (p := p) (d := 1) (Z := Z) ht (by omega) (by omega) (by omega) ⟨fun g0 => ?_, fun j g0 => ?_⟩
    rotate_left
    · refine b_X12_readsAll [] ?_
      conv => whnf
      refine ⟨fun _ => ?_, fun z => absurd (show nI 0 = 0 by decide) z⟩
      refine b_X12_readsAll [] ?_
      conv => whnf
      refine ⟨Or.inl nI_0, ?_⟩
      exact hF j _ (show innF q f 3 i = some j from (inn_as (a := 1) (b := 2) g0))
    refine b_X12_readsAll [] ?_
    conv => whnf
    refine ⟨fun z => absurd z (show ¬ nI 1 = 0 by decide), fun _ => ?_⟩
    conv => whnf
    rw [nI_add]
    refine m_rd (i := i + 1) (p := p + 1) (d := 2) (Z := (upd Z (p) (dvF f 1 (i) (nI 0)))) ht (by omega) (by omega) (by omega) ⟨fun g1 => ?_, fun j g1 => ?_⟩
    rotate_left
    · refine b_X12_readsAll [] ?_
      conv => whnf
      refine ⟨fun _ => ?_, fun z => absurd (show nI 0 = 0 by decide) z⟩
      refine b_X12_readsAll [] ?_
      conv => whnf
      refine ⟨Or.inl nI_0, ?_⟩
      exact hF j _ (show innF q f 3 i = some j from ((inn_an (a := 1) (b := 2) g0).trans g1))
    refine b_X12_readsAll [] ?_
    conv => whnf
    refine ⟨fun z => absurd z (show ¬ nI 1 = 0 by decide), fun _ => ?_⟩
    conv => whnf
    refine b_X12_readsAll [] ?_
    conv => whnf
    refine ⟨Or.inr nI_one, ?_⟩
    have h9 := hT (show innF q f 3 i = none from ((inn_an (a := 1) (b := 2) g0).trans g1)) (upd (upd Z (p) (dvF f 1 (i) (nI 0))) (p + 1) (dvF f 2 (i + 1) (nI 0))) (fun j hj => by unfold upd; rw [if_neg (by omega)]; rw [if_neg (by omega)]) ?_
    · exact h9
    · exact ⟨(by unfold upd; rw [if_neg (by omega)]; rw [if_pos rfl]; exact dv1 f i), fun z => absurd z (by decide), fun _ => by unfold upd; rw [if_pos rfl]; exact dv2 f (i + 1), fun z => absurd z (by decide)⟩
  · refine e_X12_readsAll [] ?_
    conv => whnf
    refine ⟨fun z => absurd z (by decide), fun _ => ?_⟩
    conv => whnf
    refine ⟨fun z => absurd z (by decide), fun _ => ?_⟩
    conv => whnf
    refine ⟨fun _ => ?_, fun z => absurd rfl z⟩
    conv => whnf
    refine b_X12_readsAll [] ?_
    conv => whnf
    refine m_rd (i := i) (p := p) (d := 1) (Z := Z) ht (by omega) (by omega) (by omega) ⟨fun g0 => ?_, fun j g0 => ?_⟩
    rotate_left
    · refine b_X12_readsAll [] ?_
      conv => whnf
      refine ⟨fun _ => ?_, fun z => absurd (show nI 0 = 0 by decide) z⟩
      refine b_X12_readsAll [] ?_
      conv => whnf
      refine ⟨Or.inl nI_0, ?_⟩
      exact hF j _ (show innF q f 2 i = some j from (inn_as (a := 1) (b := 1) g0))
    refine b_X12_readsAll [] ?_
    conv => whnf
    refine ⟨fun z => absurd z (show ¬ nI 1 = 0 by decide), fun _ => ?_⟩
    conv => whnf
    rw [nI_add]
    refine m_rd (i := i + 1) (p := p + 1) (d := 1) (Z := (upd Z (p) (dvF f 1 (i) (nI 0)))) ht (by omega) (by omega) (by omega) ⟨fun g1 => ?_, fun j g1 => ?_⟩
    rotate_left
    · refine b_X12_readsAll [] ?_
      conv => whnf
      refine ⟨fun _ => ?_, fun z => absurd (show nI 0 = 0 by decide) z⟩
      refine b_X12_readsAll [] ?_
      conv => whnf
      refine ⟨Or.inl nI_0, ?_⟩
      exact hF j _ (show innF q f 2 i = some j from ((inn_an (a := 1) (b := 1) g0).trans g1))
    refine b_X12_readsAll [] ?_
    conv => whnf
    refine ⟨fun z => absurd z (show ¬ nI 1 = 0 by decide), fun _ => ?_⟩
    conv => whnf
    refine b_X12_readsAll [] ?_
    conv => whnf
    refine ⟨Or.inr nI_one, ?_⟩
    have h9 := hT (show innF q f 2 i = none from ((inn_an (a := 1) (b := 1) g0).trans g1)) (upd (upd Z (p) (dvF f 1 (i) (nI 0))) (p + 1) (dvF f 1 (i + 1) (nI 0))) (fun j hj => by unfold upd; rw [if_neg (by omega)]; rw [if_neg (by omega)]) ?_
    · exact h9
    · exact ⟨(by unfold upd; rw [if_neg (by omega)]; rw [if_pos rfl]; exact dv1 f i), fun z => absurd z (by decide), fun z => absurd z (by decide), fun _ => by unfold upd; rw [if_pos rfl]; exact dv1 f (i + 1)⟩
  · refine e_X12_readsAll [] ?_
    conv => whnf
    refine ⟨fun z => absurd z (by rcases hb2 with rfl | rfl <;> decide), fun _ => ?_⟩
    conv => whnf
    refine ⟨fun z => absurd z (by rcases hb2 with rfl | rfl <;> decide), fun _ => ?_⟩
    conv => whnf
    refine ⟨fun z => absurd z (by rcases hb2 with rfl | rfl <;> decide), fun _ => ?_⟩
    conv => whnf
    refine b_X12_readsAll [] ?_
    conv => whnf
    refine m_rd (i := i) (p := p) (d := 1) (Z := Z) ht (by omega) (by omega) (by omega) ⟨fun g0 => ?_, fun j g0 => ?_⟩
    rotate_left
    · refine b_X12_readsAll [] ?_
      conv => whnf
      refine ⟨Or.inl nI_0, ?_⟩
      exact hF j _ (by rw [hd1]; exact g0)
    refine b_X12_readsAll [] ?_
    conv => whnf
    refine ⟨Or.inr nI_one, ?_⟩
    have h9 := hT (by rw [hd1]; exact g0) (upd Z (p) (dvF f 1 (i) (nI 0))) (fun j hj => by unfold upd; rw [if_neg (by omega)]) ?_
    · rw [hd1] at h9; exact h9
    · exact ⟨(by unfold upd; rw [if_pos rfl]; exact dv1 f i), fun z => absurd z (by rcases hb2 with rfl | rfl <;> decide), fun z => absurd z (by rcases hb2 with rfl | rfl <;> decide), fun z => absurd z (by rcases hb2 with rfl | rfl <;> decide)⟩
