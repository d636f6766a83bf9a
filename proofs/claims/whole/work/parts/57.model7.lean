/-! SPECS of the model: mutual, hum, twins -/
def sN (f : Nat → Nat) : Nat → Nat → Nat
  | 0, _ => 0
  | k + 1, i => f i + sN f k (i + 1)
theorem sN_last (f : Nat → Nat) : ∀ (k i : Nat), sN f (k + 1) i = sN f k i + f (i + k) := by
  intro k
  induction k with
  | zero => intro i; simp [sN]
  | succ k ih => intro i; rw [sN, ih (i + 1), sN, show i + 1 + k = i + (k + 1) by omega]; omega
theorem sN_cg {f g : Nat → Nat} : ∀ (k i : Nat), (∀ j, i ≤ j → j < i + k → f j = g j) → sN f k i = sN g k i := by
  intro k
  induction k with
  | zero => intro i _; rfl
  | succ k ih => intro i h; rw [sN, sN, h i (Nat.le_refl _) (by omega), ih (i + 1) (fun j h1 h2 => h j (by omega) (by omega))]
theorem sN_add (f g : Nat → Nat) : ∀ (k i : Nat), sN (fun j => f j + g j) k i = sN f k i + sN g k i := by
  intro k
  induction k with
  | zero => intro i; rfl
  | succ k ih => intro i; rw [sN, sN, sN, ih (i + 1)]; omega
def ind (b : Bool) : Nat := if b then 1 else 0
theorem tri (D : Nat → Nat → Bool) (sym : ∀ a b, D a b = D b a) : ∀ n, sN (fun a => sN (fun b => ind (D a b)) (n - (a + 1)) (a + 1)) n 0 = sN (fun t => sN (fun j => ind (D t j)) t 0) n 0 := by
  intro n
  induction n with
  | zero => rfl
  | succ n ih =>
    rw [sN_last, sN_last, ← ih, Nat.zero_add, Nat.sub_self]
    have e1 : sN (fun a => sN (fun b => ind (D a b)) (n + 1 - (a + 1)) (a + 1)) n 0 = sN (fun a => sN (fun b => ind (D a b)) (n - (a + 1)) (a + 1) + ind (D n a)) n 0 := by
      refine sN_cg _ _ (fun a _ ha => ?_)
      rw [show n + 1 - (a + 1) = (n - (a + 1)) + 1 by omega, sN_last, show a + 1 + (n - (a + 1)) = n by omega, sym a n]
    rw [e1, sN_add]
    rfl
theorem itr_ind {D : Nat → Bool} {f : Nat → Int32 → Int32} (hf : ∀ j x, f j x = if D j = true then x + nI 1 else x) : ∀ (k i : Nat) (c : Nat), itr f k i (nI c) = nI (c + sN (fun j => ind (D j)) k i) := by
  intro k
  induction k with
  | zero => intro i c; rfl
  | succ k ih =>
    intro i c
    rw [itr, hf, sN]
    by_cases h : D i = true
    · rw [if_pos h, nI_add, ih, ind, if_pos h]; congr 1; omega
    · rw [if_neg h, ih, ind, if_neg h]; congr 1; omega
theorem itr_sN {f : Nat → Int32 → Int32} {g : Nat → Nat} : ∀ (k i : Nat) (c : Nat), (∀ j, i ≤ j → j < i + k → ∀ c, f j (nI c) = nI (c + g j)) → itr f k i (nI c) = nI (c + sN g k i) := by
  intro k
  induction k with
  | zero => intro i c _; rfl
  | succ k ih =>
    intro i c h
    rw [itr, h i (Nat.le_refl _) (by omega), ih _ _ (fun j h1 h2 => h j (by omega) (by omega)), sN]
    congr 1
    omega
def mtD (w : WS) (n : Nat) (P : Nat → Nat) (v : Int32) (a b : Nat) : Bool := fCut (blw w n (P a) v).2.1 (nI b) && fCut (blw w n (P b) v).2.1 (nI a)
def mtI (w : WS) (n : Nat) (P : Nat → Nat) (v : Int32) (a b : Nat) (x : Int32) : Int32 := if mtD w n P v a b = true then x + nI 1 else x
def mtO (w : WS) (n : Nat) (P : Nat → Nat) (v : Int32) (a : Nat) (x : Int32) : Int32 := itr (mtI w n P v a) (n - (a + 1)) (a + 1) x
theorem mt_eq (w : WS) (n : Nat) (P : Nat → Nat) (v : Int32) (hn : n ≤ 8) : itr (mtO w n P v) n 0 (nI 0) = itr (muO w n P v) n 0 (nI 0) := by
  rw [itr_sN (f := mtO w n P v) (g := fun a => sN (fun b => ind (mtD w n P v a b)) (n - (a + 1)) (a + 1)) _ _ _ (fun j _ _ c => itr_ind (fun b x => rfl) _ _ _),
    itr_sN (f := muO w n P v) (g := fun t => sN (fun j => ind (mtD w n P v t j)) t 0) _ _ _ (fun t _ ht c => ?_), tri _ (fun a b => by unfold mtD; exact Bool.and_comm _ _)]
  unfold muO
  refine itr_sN (g := fun j => ind (mtD w n P v t j)) _ _ _ (fun j _ hj c => ?_)
  unfold muI mtD ind
  rw [fCut_hasB (k := t) (by omega)]
  by_cases h1 : fCut (blw w n (P t) v).2.1 (nI j) = true
  · by_cases h2 : hasB (blw w n (P j) v).2.1 (nI t) = true
    · rw [if_pos h1, if_pos h2, h1, h2, nI_add]; rfl
    · rw [if_pos h1, if_neg h2, h1, Bool.not_eq_true _ |>.mp h2]; rfl
  · rw [if_neg h1, Bool.not_eq_true _ |>.mp h1]; rfl
theorem m_hrs {m : MS} {w : WS} {n : Nat} {A P : Nat → Nat} {s : S3} {v : Int32} {t x : Nat} (h : mX m w n A P) (ht : t < n) (hx : x < n) (hv : ¬ v ≤ 0) {K : Option Value → AH → Prop} (hK : ∀ s2 : S3, K (some (.int (bI (fCut (blw w n (P t) v).2.1 (nI x))))) (mC m s2.1 s2.2.2)) : am_M i_X12_hears [.ref 0, .int (nI t), .int (nI x), .int v] (mC m s.1 s.2.2) K := by
  have hn8 := h.n8
  refine e_X12_hears [] ?_
  conv => whnf
  refine m_fb (m := m) (s := s) h ht hv (fun s2 hs2 hb2 => ?_)
  refine b_X12_hears [] ?_
  conv => whnf
  refine ⟨(vp_in_nI (show x < 8 by omega) (by decide)), ?_⟩
  conv => whnf
  rw [nI_clamp (show x < 2 ^ 31 by omega)]
  refine ⟨fun c12 => ?_, fun c12 => ?_⟩
  · refine b_X12_hears [] ?_
    conv => whnf
    refine ⟨(by first | exact Or.inl nI_0 | exact Or.inr nI_one | assumption), ?_⟩
    have h9 := hK s2
    rw [← hs2.2, show fCut s2.2.1 (nI x) = false from Bool.eq_false_iff.mpr (fun z => absurd ((hb2.g (by omega)).mp z) (Int32.not_lt.mpr c12))] at h9
    exact h9
  · conv => whnf
    refine b_X12_hears [] ?_
    conv => whnf
    refine ⟨(by first | exact Or.inl nI_0 | exact Or.inr nI_one | assumption), ?_⟩
    have h9 := hK s2
    rw [← hs2.2, (hb2.g (by omega)).mpr (Int32.not_le.mp c12)] at h9
    exact h9
theorem ml_mti {m : MS} {w : WS} {n : Nat} {A P : Nat → Nat} {v z2 : Int32} {a : Nat} (hv : ¬ v ≤ 0) (ha : a < n) {K : Option Value → AH → Prop} (h : mX m w n A P) : ∀ (k i : Nat) (s : S3) (x : Int32), i + k = n → (∀ s2 : S3, am_E i_X12_mutual 82 [some (.ref 0), some (.int v), some (.int z2), some (.int (itr (mtI w n P v a) k i x)), some (.int (nI a)), some (.int (nI n))] [] (mC m s2.1 s2.2.2) K) → am_E i_X12_mutual 35 [some (.ref 0), some (.int v), some (.int z2), some (.int x), some (.int (nI a)), some (.int (nI i))] [] (mC m s.1 s.2.2) K := by
  intro k
  induction k with
  | zero =>
    intro i s x hi hK
    obtain rfl : i = n := by omega
    refine b_X12_mutual [35, 82] ?_
    conv => whnf
    refine ⟨fun c41 => ?_, fun c41 => absurd (by rw [h.n]; exact nI_le (Nat.le_refl _) (by have := h.n8; omega)) c41⟩
    exact hK s
  | succ k ih =>
    intro i s x hi hK
    refine b_X12_mutual [35, 82] ?_
    conv => whnf
    refine ⟨fun c41 => absurd c41 (by rw [h.n]; exact nI_ge (by omega) (by have := h.n8; omega)), fun c41 => ?_⟩
    conv => whnf
    refine m_hrs h ha (by omega) hv (fun s2 => ?_)
    refine b_X12_mutual [35, 82] ?_
    conv => whnf
    refine ⟨fun c54 => ?_, fun c54 => ?_⟩
    · refine b_X12_mutual [35, 82] ?_
      conv => whnf
      have e4 : mtI w n P v a i x = x := if_neg (by unfold mtD; rw [bI_0.mp c54, Bool.false_and]; decide)
      simp only [itr, e4] at hK
      rw [show x + nI 0 = x from by rw [nI_0, Int32.add_zero]]
      have h2 := ih (i + 1) s2 (x) (by omega) hK
      rw [← nI_add i 1] at h2
      exact h2
    · conv => whnf
      refine m_hrs (s := s2) h (by omega) ha hv (fun s3 => ?_)
      refine b_X12_mutual [35, 82] ?_
      conv => whnf
      refine ⟨fun c66 => ?_, fun c66 => ?_⟩
      · refine b_X12_mutual [35, 82] ?_
        conv => whnf
        have e4 : mtI w n P v a i x = x := if_neg (by unfold mtD; rw [bI_n0.mp c54, bI_0.mp c66]; decide)
        simp only [itr, e4] at hK
        rw [show x + nI 0 = x from by rw [nI_0, Int32.add_zero]]
        have h2 := ih (i + 1) s3 (x) (by omega) hK
        rw [← nI_add i 1] at h2
        exact h2
      · conv => whnf
        refine b_X12_mutual [35, 82] ?_
        conv => whnf
        have e4 : mtI w n P v a i x = x + nI 1 := if_pos (by unfold mtD; rw [bI_n0.mp c54, bI_n0.mp c66]; rfl)
        simp only [itr, e4] at hK
        have h2 := ih (i + 1) s3 (x + nI 1) (by omega) hK
        rw [← nI_add i 1] at h2
        exact h2
theorem ml_mto {m : MS} {w : WS} {n : Nat} {A P : Nat → Nat} {v z2 : Int32} (hv : ¬ v ≤ 0) {K : Option Value → AH → Prop} (h : mX m w n A P) : ∀ (k i : Nat) (s : S3) (x : Int32), i + k = n → (∀ s2 : S3, K (some (.int (itr (mtO w n P v) k i x))) (mC m s2.1 s2.2.2)) → am_E i_X12_mutual 20 [some (.ref 0), some (.int v), some (.int z2), some (.int x), some (.int (nI i)), none] [] (mC m s.1 s.2.2) K := by
  intro k
  induction k with
  | zero =>
    intro i s x hi hK
    obtain rfl : i = n := by omega
    refine b_X12_mutual [20, 35] ?_
    conv => whnf
    refine ⟨fun c26 => ?_, fun c26 => absurd (by rw [h.n]; exact nI_le (Nat.le_refl _) (by have := h.n8; omega)) c26⟩
    refine b_X12_mutual [20, 35] ?_
    conv => whnf
    exact hK s
  | succ k ih =>
    intro i s x hi hK
    refine b_X12_mutual [20, 35] ?_
    conv => whnf
    refine ⟨fun c26 => absurd c26 (by rw [h.n]; exact nI_ge (by omega) (by have := h.n8; omega)), fun c26 => ?_⟩
    conv => whnf
    rw [nI_add]
    refine ml_mti hv (by omega) h (n - (i + 1)) (i + 1) s x (by omega) (fun s2 => ?_)
    refine b_X12_mutual [20] ?_
    conv => whnf
    have h2 := ih (i + 1) s2 (mtO w n P v i x) (by omega) hK
    rw [← nI_add i 1] at h2
    exact am_wk (by exact ⟨Or.inr rfl, Or.inr rfl, Or.inr rfl, Or.inr rfl, Or.inr rfl, Or.inl rfl, trivial⟩) h2
theorem m_mutual {a : Ab} {m : MS} {s : S3} {v : Int32} (hI : Inv a) (hM : MR a m)  {K : Option Value → AH → Prop} (hK : ∀ m2 (s2 : S3), MR (qB a (fNoBlow v)) m2 → K (some (.int (qA (fNoBlow v) (itr (muO (a.1 0) (nO (a.1 0)) (plW (a.1 0)) v) (nO (a.1 0)) 0 (nI 0))))) (mC m2 s2.1 s2.2.2)) : am_M i_X12_mutual [.ref 0, .int v] (mC m s.1 s.2.2) K := by
  have h := hM.x hI
  have hn := hI.n
  have hn8 := hI.n8
  refine e_X12_mutual [20] ?_
  conv => whnf
  refine m_nb ?_
  refine b_X12_mutual [20] ?_
  conv => whnf
  refine ⟨fun c6 => ?_, fun c6 => ?_⟩
  · refine b_X12_mutual [20] ?_
    conv => whnf
    have r0 : (fNoBlow v) = 0 := c6
    rw [qA_0 r0, qB_0 r0] at hK
    obtain ⟨v_, hv1, hv2, rfl⟩ := fNoBlow_0 r0
    have hv0 : ¬ nI v_ ≤ 0 := v_b hv1 (by omega)
    rw [← mt_eq _ _ _ _ hn8] at hK
    exact am_wk (by exact ⟨Or.inr rfl, Or.inr rfl, Or.inr rfl, Or.inr rfl, Or.inr rfl, Or.inl rfl, trivial⟩) (ml_mto hv0 h (nO (a.1 0)) 0 s (nI 0) (by omega) (fun s2 => hK m s2 hM))
  · conv => whnf
    refine m_no (x := (fNoBlow v)) (by first | (unfold rfs; decide) | exact fNoBlow_r (by assumption) | exact fFirst_r fNoTh_r fNoTh_r (by assumption)) ?_
    refine b_X12_mutual [20] ?_
    conv => whnf
    have e0 : (fNoBlow v) = (fNoBlow v) := rfl
    rw [e0, qA_n (rfs_n (by first | (unfold rfs; decide) | exact fNoBlow_r (by assumption) | exact fFirst_r fNoTh_r fNoTh_r (by assumption)))] at hK
    exact hK _ s (hM.bump (by first | (unfold rfs; decide) | exact fNoBlow_r (by assumption) | exact fFirst_r fNoTh_r fNoTh_r (by assumption)))
theorem ml_hb {m : MS} {w : WS} {n : Nat} {A P : Nat → Nat} {v : Int32} {j : Nat} (hv : ¬ v ≤ 0) (hj : j < 8) {K : Option Value → AH → Prop} (h : mX m w n A P) : ∀ (k i : Nat) (s : S3) (x : Int32), i + k = n → (∀ s2 : S3, K (some (.int (itr (allI w n P v j) k i x))) (mC m s2.1 s2.2.2)) → am_E i_X12_heardBy 5 [some (.ref 0), some (.int (nI j)), some (.int v), some (.int x), some (.int (nI i))] [] (mC m s.1 s.2.2) K := by
  intro k
  induction k with
  | zero =>
    intro i s x hi hK
    obtain rfl : i = n := by omega
    refine b_X12_heardBy [5] ?_
    conv => whnf
    refine ⟨fun c11 => ?_, fun c11 => absurd (by rw [h.n]; exact nI_le (Nat.le_refl _) (by have := h.n8; omega)) c11⟩
    refine b_X12_heardBy [5] ?_
    conv => whnf
    exact hK s
  | succ k ih =>
    intro i s x hi hK
    refine b_X12_heardBy [5] ?_
    conv => whnf
    refine ⟨fun c11 => absurd c11 (by rw [h.n]; exact nI_ge (by omega) (by have := h.n8; omega)), fun c11 => ?_⟩
    conv => whnf
    refine m_fb (m := m) (s := s) h (by omega) hv (fun s2 hs2 hb2 => ?_)
    refine b_X12_heardBy [5] ?_
    conv => whnf
    refine ⟨(vp_in_nI hj (by decide)), ?_⟩
    conv => whnf
    rw [nI_clamp (show j < 2 ^ 31 by omega)]
    have e4 : allI w n P v j i x = x + s2.1 j := by rw [hs2.1 j hj]; rfl
    simp only [itr, e4] at hK
    have h2 := ih (i + 1) s2 (x + s2.1 j) (by omega) hK
    rw [← nI_add i 1] at h2
    exact h2
theorem m_hb {m : MS} {w : WS} {n : Nat} {A P : Nat → Nat} {s : S3} {v : Int32} {j : Nat} (h : mX m w n A P) (hj : j < 8) (hv : ¬ v ≤ 0) {K : Option Value → AH → Prop} (hK : ∀ s2 : S3, K (some (.int (itr (allI w n P v j) n 0 (nI 0)))) (mC m s2.1 s2.2.2)) : am_M i_X12_heardBy [.ref 0, .int (nI j), .int v] (mC m s.1 s.2.2) K := by
  refine e_X12_heardBy [5] ?_
  conv => whnf
  exact ml_hb hv hj h n 0 s (nI 0) (by omega) hK
def humR (w : WS) (n : Nat) (P : Nat → Nat) (v : Int32) (b : Int32 × Int32) : Prop := b = nob ∨ ∃ j, j < n ∧ b = (nI j, itr (allI w n P v j) n 0 (nI 0))
theorem ml_hum {m : MS} {w : WS} {n : Nat} {A P : Nat → Nat} {v c z3 : Int32} (hv : ¬ v ≤ 0) {K : Option Value → AH → Prop} (h : mX m w n A P) : ∀ (k i : Nat) (s : S3) (x : Int32) (b : Int32 × Int32) (hb : humR w n P v b), i + k = n → (∀ s2 : S3, K (some (.int (if c = 0 then itr (ahdI w n P v) k i x else (itr (qutI w n P v) k i b).1))) (mC m s2.1 s2.2.2)) → am_E i_X12_hum 41 [some (.ref 0), some (.int v), some (.int c), some (.int z3), some (.int x), some (.int b.1), some (.int (nI i))] [] (mC m s.1 s.2.2) K := by
  intro k
  induction k with
  | zero =>
    intro i s x b hb hi hK
    obtain rfl : i = n := by omega
    refine b_X12_hum [41] ?_
    conv => whnf
    refine ⟨fun c47 => ?_, fun c47 => absurd (by rw [h.n]; exact nI_le (Nat.le_refl _) (by have := h.n8; omega)) c47⟩
    refine b_X12_hum [41] ?_
    conv => whnf
    refine ⟨fun c100 => ?_, fun c100 => ?_⟩
    · conv => whnf
      refine b_X12_hum [41] ?_
      conv => whnf
      rw [if_pos c100] at hK
      exact hK s
    · refine b_X12_hum [41] ?_
      conv => whnf
      rw [if_neg c100] at hK
      exact hK s
  | succ k ih =>
    intro i s x b hb hi hK
    have hn8 := h.n8
    refine b_X12_hum [41] ?_
    conv => whnf
    refine ⟨fun c47 => absurd c47 (by rw [h.n]; exact nI_ge (by omega) (by have := h.n8; omega)), fun c47 => ?_⟩
    conv => whnf
    simp only [itr] at hK
    refine m_hb h (by omega) hv (fun s2 => ?_)
    refine b_X12_hum [41] ?_
    conv => whnf
    refine ⟨fun c64 => ?_, fun c64 => ?_⟩
    · refine b_X12_hum [41] ?_
      conv => whnf
      refine b_X12_hum [41] ?_
      conv => whnf
      rcases hb with rfl | ⟨j, hj, rfl⟩
      · have e1 : qutI w n P v i nob = (nI i, (itr (allI w n P v i) n 0 (nI 0))) := (show fLeast nob (nI i) _ = _ from if_pos rfl)
        rw [e1] at hK
        have h2 := ih (i + 1) s2 (ahdI w n P v i x) (nI i, (itr (allI w n P v i) n 0 (nI 0))) (Or.inr ⟨i, by omega, rfl⟩) (by omega) hK
        rw [← nI_add i 1] at h2
        exact h2
      · exact absurd c64 (nI_pos (by omega))
    · conv => whnf
      rcases hb with rfl | ⟨j, hj, rfl⟩
      · exact absurd (by decide) c64
      refine m_hb (s := s2) h (by omega) hv (fun s3 => ?_)
      refine b_X12_hum [41] ?_
      conv => whnf
      refine m_hb (s := s3) h (by omega) hv (fun s4 => ?_)
      refine b_X12_hum [41] ?_
      conv => whnf
      refine ⟨fun c81 => ?_, fun c81 => ?_⟩
      · refine b_X12_hum [41] ?_
        conv => whnf
        have e1 : qutI w n P v i (nI j, itr (allI w n P v j) n 0 (nI 0)) = (nI j, itr (allI w n P v j) n 0 (nI 0)) := (show fLeast _ (nI i) _ = _ from (if_neg (nI_n9 (by omega))).trans (if_pos c81))
        rw [e1] at hK
        have h2 := ih (i + 1) s4 (ahdI w n P v i x) (nI j, itr (allI w n P v j) n 0 (nI 0)) (Or.inr ⟨j, hj, rfl⟩) (by omega) hK
        rw [← nI_add i 1] at h2
        exact h2
      · conv => whnf
        refine b_X12_hum [41] ?_
        conv => whnf
        have e1 : qutI w n P v i (nI j, itr (allI w n P v j) n 0 (nI 0)) = (nI i, (itr (allI w n P v i) n 0 (nI 0))) := (show fLeast _ (nI i) _ = _ from (if_neg (nI_n9 (by omega))).trans (if_neg c81))
        rw [e1] at hK
        have h2 := ih (i + 1) s4 (ahdI w n P v i x) (nI i, (itr (allI w n P v i) n 0 (nI 0))) (Or.inr ⟨i, by omega, rfl⟩) (by omega) hK
        rw [← nI_add i 1] at h2
        exact h2
theorem m_hum {a : Ab} {m : MS} {s : S3} {v c : Int32} (hI : Inv a) (hM : MR a m)  {K : Option Value → AH → Prop} (hK : ∀ m2 (s2 : S3), MR (qB a (fFirst (fNoBlow v) (fUnk c (nI 1)))) m2 → K (some (.int (qA (fFirst (fNoBlow v) (fUnk c (nI 1))) (if c = 0 then itr (ahdI (a.1 0) (nO (a.1 0)) (plW (a.1 0)) v) (nO (a.1 0)) 0 (nI 0) else (itr (qutI (a.1 0) (nO (a.1 0)) (plW (a.1 0)) v) (nO (a.1 0)) 0 nob).1)))) (mC m2 s2.1 s2.2.2)) : am_M i_X12_hum [.ref 0, .int v, .int c] (mC m s.1 s.2.2) K := by
  have h := hM.x hI
  have hn := hI.n
  have hn8 := hI.n8
  refine e_X12_hum [41] ?_
  conv => whnf
  refine m_nb ?_
  refine b_X12_hum [41] ?_
  conv => whnf
  refine ⟨fun c6 => ?_, fun c6 => ?_⟩
  · conv => whnf
    refine m_isIn ?_
    refine b_X12_hum [41] ?_
    conv => whnf
    refine ⟨fun c15 => ?_, fun c15 => ?_⟩
    · conv => whnf
      refine ⟨fun c22 => absurd c22 (by decide), fun c22 => ?_⟩
      conv => whnf
      refine m_no (x := (Int32.ofInt (-2))) (by first | (unfold rfs; decide) | exact fNoBlow_r (by assumption) | exact fFirst_r fNoTh_r fNoTh_r (by assumption)) ?_
      refine b_X12_hum [41] ?_
      conv => whnf
      have e0 : (fFirst (fNoBlow v) (fUnk c (nI 1))) = (Int32.ofInt (-2)) := (fF0 c6 (in_T c15))
      rw [e0, qA_n (rfs_n (by first | (unfold rfs; decide) | exact fNoBlow_r (by assumption) | exact fFirst_r fNoTh_r fNoTh_r (by assumption)))] at hK
      exact hK _ s (hM.bump (by first | (unfold rfs; decide) | exact fNoBlow_r (by assumption) | exact fFirst_r fNoTh_r fNoTh_r (by assumption)))
    · refine b_X12_hum [41] ?_
      conv => whnf
      refine ⟨fun c22 => ?_, fun c22 => absurd c6 c22⟩
      refine b_X12_hum [41] ?_
      conv => whnf
      have r0 : (fFirst (fNoBlow v) (fUnk c (nI 1))) = 0 := (fF0 c6 (in_F c15))
      rw [qA_0 r0, qB_0 r0] at hK
      obtain ⟨r1a, r1b⟩ := fFirst_0 r0
      obtain ⟨v_, hv1, hv2, rfl⟩ := fNoBlow_0 r1a
      have hv0 : ¬ nI v_ ≤ 0 := v_b hv1 (by omega)
      have uc := r1b
      exact ml_hum hv0 h (nO (a.1 0)) 0 s (nI 0) nob (Or.inl rfl) (by omega) (fun s2 => hK m s2 hM)
  · refine b_X12_hum [41] ?_
    conv => whnf
    refine ⟨fun c22 => absurd c22 c6, fun c22 => ?_⟩
    conv => whnf
    refine m_no (x := (fNoBlow v)) (by first | (unfold rfs; decide) | exact fNoBlow_r (by assumption) | exact fFirst_r fNoTh_r fNoTh_r (by assumption)) ?_
    refine b_X12_hum [41] ?_
    conv => whnf
    have e0 : (fFirst (fNoBlow v) (fUnk c (nI 1))) = (fNoBlow v) := (fFn rfl (rfs_n (by first | (unfold rfs; decide) | exact fNoBlow_r (by assumption) | exact fFirst_r fNoTh_r fNoTh_r (by assumption))))
    rw [e0, qA_n (rfs_n (by first | (unfold rfs; decide) | exact fNoBlow_r (by assumption) | exact fFirst_r fNoTh_r fNoTh_r (by assumption)))] at hK
    exact hK _ s (hM.bump (by first | (unfold rfs; decide) | exact fNoBlow_r (by assumption) | exact fFirst_r fNoTh_r fNoTh_r (by assumption)))
def wFk (w : WS) (n : Nat) : Prop := ∀ t, t < n → (∃ k, k ≤ 5 ∧ w.2 0 t = nI k) ∧ ∃ f, f ≤ 9 ∧ w.2 1 t = nI f
theorem Inv.fk {a : Ab} (h : Inv a) : wFk (a.1 0) (nO (a.1 0)) := fun t ht => ⟨(h.1.2.1 t ht).1, (h.1.2.1 t ht).2.1⟩
theorem loss13 {k f : Nat} (hk : k ≤ 5) (hf : f ≤ 9) : ∃ l, l ≤ 13 ∧ fLoss (nI k) (nI f) = nI l := by
  have : ∀ k, k < 6 → ∀ f, f < 10 → (fLoss (nI k) (nI f)).toNatClampNeg ≤ 13 ∧ fLoss (nI k) (nI f) = nI (fLoss (nI k) (nI f)).toNatClampNeg := by decide +kernel
  obtain ⟨h1, h2⟩ := this k (by omega) f (by omega)
  exact ⟨_, h1, h2⟩
theorem sub60 {r l : Nat} (hr : r ≤ 60) (hl : l ≤ 13) : nI r - nI l ≤ nI 60 := by
  have : ∀ r, r < 61 → ∀ l, l < 14 → nI r - nI l ≤ nI 60 := by decide +kernel
  exact this r (by omega) l (by omega)
theorem r60 {r : Int32} (h : ¬ r ≤ 0) (h2 : r ≤ nI 60) : ∃ q, q ≤ 60 ∧ r = nI q := by
  obtain ⟨j, hj, rfl⟩ := nI_of (x := r) (fun z => h (Int32.le_of_lt z))
  exact ⟨j, (nI_leI hj (by decide)).mp h2, rfl⟩
def le60 (s : S3) : Prop := ∀ i, i < 8 → s.1 i ≤ nI 60
theorem land60 {s : S3} {a : Nat} {r : Int32} (h : le60 s) (hr : r ≤ nI 60) : le60 (land1 (nI a) r s) := by
  intro i hi
  simp only [land1, upd]
  split
  · exact hr
  · exact h i hi
theorem step60 {w : WS} {n a : Nat} {r : Int32} (hf : wFk w n) (ha : a < n) (hn : n ≤ 8) (h : ¬ r ≤ 0) (h2 : r ≤ nI 60) : r - fLoss (w.2 0 (nI a).toNatClampNeg) (w.2 1 (nI a).toNatClampNeg) ≤ nI 60 := by
  obtain ⟨q, hq, rfl⟩ := r60 h h2
  rw [nI_clamp (by omega)]
  obtain ⟨⟨k, hk, ek⟩, f, hf1, ef⟩ := hf a ha
  obtain ⟨l, hl, el⟩ := loss13 hk hf1
  rw [ek, ef, el]
  exact sub60 hq hl
theorem up60 {w : WS} {n : Nat} {A : Nat → Nat} (hn : n ≤ 8) (hf : wFk w n) (hA : ∀ j, j < n → w.2 3 j = nI (A j) ∧ A j < n) : ∀ (k j : Nat) (r : Int32) (s : S3), j + k ≤ n → r ≤ nI 60 → le60 s → le60 (upF w k j r s) := by
  intro k
  induction k with
  | zero => intro j r s _ _ h; exact h
  | succ k ih =>
    intro j r s hj hr h
    obtain ⟨a1, a2⟩ := hA j (by omega)
    rw [upF]
    split
    · exact h
    · rename_i hr0
      split
      · exact h
      · rw [a1]
        split
        · split
          · exact land60 h hr
          · exact ih _ _ _ (by omega) (step60 hf a2 hn hr0 hr) (land60 h hr)
        · exact land60 h hr
theorem dn60 {w : WS} {n : Nat} {A : Nat → Nat} (hn : n ≤ 8) (hf : wFk w n) (hA : ∀ j, j < n → w.2 3 j = nI (A j) ∧ A j < n) : ∀ (j : Nat) (r : Int32) (s : S3), j ≤ n → r ≤ nI 60 → le60 s → le60 (dnF w j r s) := by
  intro k
  induction k with
  | zero => intro r s _ _ h; exact h
  | succ j ih =>
    intro r s hj hr h
    obtain ⟨a1, a2⟩ := hA j (by omega)
    rw [dnF]
    split
    · exact h
    · rename_i hr0
      split
      · exact h
      · rw [a1]
        split
        · split
          · exact land60 h hr
          · exact ih _ _ (by omega) (step60 hf a2 hn hr0 hr) (land60 h hr)
        · exact land60 h hr
theorem blw60 {w : WS} {n p v : Nat} {A P : Nat → Nat} (hw : wOk w n A P) (hf : wFk w n) (hp : p < n) (hv : v ≤ 60) {i : Nat} (hi : i < 8) : ∃ g, g ≤ 60 ∧ (blw w n p (nI v)).1 i = nI g := by
  have hA : ∀ j, j < n → w.2 3 j = nI (A j) ∧ A j < n := fun j hj => ⟨(hw.2.2.1 j hj).1, (hw.2.2.1 j hj).2.1⟩
  have h1 : le60 (blw w n p (nI v)) := dn60 hw.2.1 hf hA _ _ _ (by omega) (nI_le hv (by decide)) (up60 hw.2.1 hf hA _ _ _ _ (by omega) (nI_le hv (by decide)) (fun _ _ => nI_le (by omega) (by decide)))
  have h2 := (bw_blw hw hp (nI v)).2.1 i hi
  obtain ⟨g, hg, e⟩ := nI_of (x := (blw w n p (nI v)).1 i) (Int32.not_lt.mpr h2)
  have h3 := h1 i hi
  rw [e] at h3
  exact ⟨g, (nI_leI hg (by decide)).mp h3, e⟩
theorem far60 {i j : Nat} (hi : i ≤ 60) (hj : j ≤ 60) : fFar (nI i) (nI j) = absI (nI i - nI j) := by
  have : ∀ i, i < 61 → ∀ j, j < 61 → fFar (nI i) (nI j) = absI (nI i - nI j) := by decide +kernel
  exact this i (by omega) j (by omega)
theorem ml_ab {m : MS} {w : WS} {n : Nat} {A P : Nat → Nat} {v x y : Nat} (hf : wFk w n) (hv1 : 1 ≤ v) (hv2 : v ≤ 60) (hx : x < n) (hy : y < n) {K : Option Value → AH → Prop} (h : mX m w n A P) : ∀ (k i : Nat) (s : S3) (q : Int32), i + k = n → (∀ s2 : S3, K (some (.int (itr (unlI w n P (nI v) x y) k i q))) (mC m s2.1 s2.2.2)) → am_E i_X12_apartBy 6 [some (.ref 0), some (.int (nI x)), some (.int (nI y)), some (.int (nI v)), some (.int q), some (.int (nI i))] [] (mC m s.1 s.2.2) K := by
  intro k
  induction k with
  | zero =>
    intro i s q hi hK
    obtain rfl : i = n := by omega
    refine b_X12_apartBy [6] ?_
    conv => whnf
    refine ⟨fun c12 => ?_, fun c12 => absurd (by rw [h.n]; exact nI_le (Nat.le_refl _) (by have := h.n8; omega)) c12⟩
    refine b_X12_apartBy [6] ?_
    conv => whnf
    exact hK s
  | succ k ih =>
    intro i s q hi hK
    have hn8 := h.n8
    refine b_X12_apartBy [6] ?_
    conv => whnf
    refine ⟨fun c12 => absurd c12 (by rw [h.n]; exact nI_ge (by omega) (by have := h.n8; omega)), fun c12 => ?_⟩
    conv => whnf
    refine m_fb (m := m) (s := s) h (by omega) (v_b hv1 (by omega)) (fun s2 hs2 hb2 => ?_)
    refine b_X12_apartBy [6] ?_
    conv => whnf
    refine ⟨(vp_in_nI (show x < 8 by omega) (by decide)), ?_⟩
    conv => whnf
    rw [nI_clamp (show x < 2 ^ 31 by omega)]
    refine ⟨(vp_in_nI (show y < 8 by omega) (by decide)), ?_⟩
    conv => whnf
    rw [nI_clamp (show y < 2 ^ 31 by omega)]
    refine m_far ?_
    have e4 : unlI w n P (nI v) x y i q = q + fFar (s2.1 x) (s2.1 y) := by
      obtain ⟨g1, q1, q2⟩ := blw60 h.2 hf (h.P (show i < n by omega)).1 hv2 (show x < 8 by omega)
      obtain ⟨g3, q3, q4⟩ := blw60 h.2 hf (h.P (show i < n by omega)).1 hv2 (show y < 8 by omega)
      unfold unlI
      rw [hs2.1 x (by omega), hs2.1 y (by omega), q2, q4, far60 q1 q3]
    simp only [itr, e4] at hK
    refine b_X12_apartBy [6] ?_
    conv => whnf
    have h2 := ih (i + 1) s2 (_) (by omega) hK
    rw [← nI_add i 1] at h2
    exact h2
theorem m_ab {m : MS} {w : WS} {n : Nat} {A P : Nat → Nat} {s : S3} {v x y : Nat} (h : mX m w n A P) (hf : wFk w n) (hv1 : 1 ≤ v) (hv2 : v ≤ 60) (hx : x < n) (hy : y < n) {K : Option Value → AH → Prop} (hK : ∀ s2 : S3, K (some (.int (itr (unlI w n P (nI v) x y) n 0 (nI 0)))) (mC m s2.1 s2.2.2)) : am_M i_X12_apartBy [.ref 0, .int (nI x), .int (nI y), .int (nI v)] (mC m s.1 s.2.2) K := by
  refine e_X12_apartBy [6] ?_
  conv => whnf
  exact ml_ab hf hv1 hv2 hx hy h n 0 s (nI 0) (by omega) hK
def twR (b : Int32 × Int32) : Prop := b = nob ∨ ∃ c q, c < 100 ∧ b = (nI c, q)
theorem ml_twi {m : MS} {w : WS} {n : Nat} {A P : Nat → Nat} {v a : Nat} {z2 : Int32} (hf : wFk w n) (hv1 : 1 ≤ v) (hv2 : v ≤ 60) (ha : a < n) {K : Option Value → AH → Prop} (h : mX m w n A P) : ∀ (k i : Nat) (s : S3) (b : Int32 × Int32) (hb : twR b), i + k = n → (∀ s2 : S3, twR (itr (alkI w n P (nI v) a) k i b) → am_E i_X12_twins 93 [some (.ref 0), some (.int (nI v)), some (.int z2), some (.int (itr (alkI w n P (nI v) a) k i b).1), some (.int (itr (alkI w n P (nI v) a) k i b).2), some (.int (nI a)), some (.int (nI n)), none] [] (mC m s2.1 s2.2.2) K) → am_E i_X12_twins 40 [some (.ref 0), some (.int (nI v)), some (.int z2), some (.int b.1), some (.int b.2), some (.int (nI a)), some (.int (nI i)), none] [] (mC m s.1 s.2.2) K := by
  intro k
  induction k with
  | zero =>
    intro i s b hb hi hK
    obtain rfl : i = n := by omega
    refine b_X12_twins [40, 93] ?_
    conv => whnf
    refine ⟨fun c46 => ?_, fun c46 => absurd (by rw [h.n]; exact nI_le (Nat.le_refl _) (by have := h.n8; omega)) c46⟩
    exact hK s hb
  | succ k ih =>
    intro i s b hb hi hK
    have hn8 := h.n8
    refine b_X12_twins [40, 93] ?_
    conv => whnf
    refine ⟨fun c46 => absurd c46 (by rw [h.n]; exact nI_ge (by omega) (by have := h.n8; omega)), fun c46 => ?_⟩
    conv => whnf
    simp only [itr] at hK
    refine m_ab h hf hv1 hv2 ha (by omega) (fun s2 => ?_)
    refine b_X12_twins [40, 93] ?_
    conv => whnf
    refine ⟨fun c61 => ?_, fun c61 => ?_⟩
    · refine b_X12_twins [40, 93] ?_
      conv => whnf
      rw [show alkI w n P (nI v) a i b = (nI 10 * nI a + nI i, (itr (unlI w n P (nI v) a i) n 0 (nI 0))) from if_pos (by
        rcases hb with rfl | ⟨c, q, h1, rfl⟩
        · rfl
        · exact absurd c61 (nI_pos (by omega)))] at hK
      have h2 := ih (i + 1) s2 (_, _) (Or.inr ⟨10 * a + i, _, by omega, by rw [nI_mulN, nI_add]⟩) (by omega) hK
      rw [← nI_add i 1] at h2
      exact am_wk (by exact ⟨Or.inr rfl, Or.inr rfl, Or.inr rfl, Or.inr rfl, Or.inr rfl, Or.inr rfl, Or.inr rfl, Or.inl rfl, trivial⟩) h2
    · conv => whnf
      have hn9 : ¬ b.1 = Int32.ofInt (-9) := fun y => c61 (by rw [y]; decide)
      refine ⟨fun c68 => ?_, fun c68 => ?_⟩
      · refine b_X12_twins [40, 93] ?_
        conv => whnf
        rw [show alkI w n P (nI v) a i b = (nI 10 * nI a + nI i, (itr (unlI w n P (nI v) a i) n 0 (nI 0))) from (if_neg hn9).trans (if_neg (Int32.not_le.mpr c68))] at hK
        have h2 := ih (i + 1) s2 (_, _) (Or.inr ⟨10 * a + i, _, by omega, by rw [nI_mulN, nI_add]⟩) (by omega) hK
        rw [← nI_add i 1] at h2
        exact am_wk (by exact ⟨Or.inr rfl, Or.inr rfl, Or.inr rfl, Or.inr rfl, Or.inr rfl, Or.inr rfl, Or.inr rfl, Or.inl rfl, trivial⟩) h2
      · conv => whnf
        refine b_X12_twins [40, 93] ?_
        conv => whnf
        rw [show alkI w n P (nI v) a i b = b from (if_neg hn9).trans (if_pos (Int32.not_lt.mp c68))] at hK
        have h2 := ih (i + 1) s2 b hb (by omega) hK
        rw [← nI_add i 1] at h2
        exact am_wk (by exact ⟨Or.inr rfl, Or.inr rfl, Or.inr rfl, Or.inr rfl, Or.inr rfl, Or.inr rfl, Or.inr rfl, Or.inl rfl, trivial⟩) h2
theorem ml_two {m : MS} {w : WS} {n : Nat} {A P : Nat → Nat} {v : Nat} {z2 : Int32} (hf : wFk w n) (hv1 : 1 ≤ v) (hv2 : v ≤ 60) {K : Option Value → AH → Prop} (h : mX m w n A P) : ∀ (k i : Nat) (s : S3) (b : Int32 × Int32) (hb : twR b), i + k = n → (∀ s2 : S3, K (some (.int (itr (alkO w n P (nI v)) k i b).1)) (mC m s2.1 s2.2.2)) → am_E i_X12_twins 25 [some (.ref 0), some (.int (nI v)), some (.int z2), some (.int b.1), some (.int b.2), some (.int (nI i)), none, none] [] (mC m s.1 s.2.2) K := by
  intro k
  induction k with
  | zero =>
    intro i s b hb hi hK
    obtain rfl : i = n := by omega
    refine b_X12_twins [25, 40] ?_
    conv => whnf
    refine ⟨fun c31 => ?_, fun c31 => absurd (by rw [h.n]; exact nI_le (Nat.le_refl _) (by have := h.n8; omega)) c31⟩
    refine b_X12_twins [25, 40] ?_
    conv => whnf
    exact hK s
  | succ k ih =>
    intro i s b hb hi hK
    refine b_X12_twins [25, 40] ?_
    conv => whnf
    refine ⟨fun c31 => absurd c31 (by rw [h.n]; exact nI_ge (by omega) (by have := h.n8; omega)), fun c31 => ?_⟩
    conv => whnf
    simp only [itr] at hK
    rw [nI_add]
    refine ml_twi hf hv1 hv2 (show i < n by omega) h (n - (i + 1)) (i + 1) s b hb (by omega) (fun s2 hb2 => ?_)
    refine b_X12_twins [25] ?_
    conv => whnf
    have h2 := ih (i + 1) s2 (alkO w n P (nI v) i b) hb2 (by omega) hK
    rw [← nI_add i 1] at h2
    exact am_wk (by exact ⟨Or.inr rfl, Or.inr rfl, Or.inr rfl, Or.inr rfl, Or.inr rfl, Or.inr rfl, Or.inl rfl, Or.inl rfl, trivial⟩) h2
theorem m_twins {a : Ab} {m : MS} {s : S3} {v : Int32} (hI : Inv a) (hM : MR a m)  {K : Option Value → AH → Prop} (hK : ∀ m2 (s2 : S3), MR (qB a (fNoBlow v)) m2 → K (some (.int (qA (fNoBlow v) ((itr (alkO (a.1 0) (nO (a.1 0)) (plW (a.1 0)) v) (nO (a.1 0)) 0 nob).1)))) (mC m2 s2.1 s2.2.2)) : am_M i_X12_twins [.ref 0, .int v] (mC m s.1 s.2.2) K := by
  have h := hM.x hI
  have hn := hI.n
  have hn8 := hI.n8
  refine e_X12_twins [25] ?_
  conv => whnf
  refine m_nb ?_
  refine b_X12_twins [25] ?_
  conv => whnf
  refine ⟨fun c6 => ?_, fun c6 => ?_⟩
  · refine b_X12_twins [25] ?_
    conv => whnf
    have r0 : (fNoBlow v) = 0 := c6
    rw [qA_0 r0, qB_0 r0] at hK
    obtain ⟨v_, hv1, hv2, rfl⟩ := fNoBlow_0 r0
    have hv0 : ¬ nI v_ ≤ 0 := v_b hv1 (by omega)
    exact am_wk (by exact ⟨Or.inr rfl, Or.inr rfl, Or.inr rfl, Or.inr rfl, Or.inr rfl, Or.inr rfl, Or.inl rfl, Or.inl rfl, trivial⟩) (ml_two (z2 := fNoBlow (nI v_)) hI.fk hv1 hv2 h (nO (a.1 0)) 0 s nob (Or.inl rfl) (by omega) (fun s2 => hK m s2 hM))
  · conv => whnf
    refine m_no (x := (fNoBlow v)) (by first | (unfold rfs; decide) | exact fNoBlow_r (by assumption) | exact fFirst_r fNoTh_r fNoTh_r (by assumption)) ?_
    refine b_X12_twins [25] ?_
    conv => whnf
    have e0 : (fNoBlow v) = (fNoBlow v) := rfl
    rw [e0, qA_n (rfs_n (by first | (unfold rfs; decide) | exact fNoBlow_r (by assumption) | exact fFirst_r fNoTh_r fNoTh_r (by assumption)))] at hK
    exact hK _ s (hM.bump (by first | (unfold rfs; decide) | exact fNoBlow_r (by assumption) | exact fFirst_r fNoTh_r fNoTh_r (by assumption)))
